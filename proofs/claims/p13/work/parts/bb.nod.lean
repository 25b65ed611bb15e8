/-! CALLS: node, bits. -/
section NOB
variable {s s' sc sm x y : Sg} {T : TT} {n S P A N K C w : Nat} {t : Nat → Int} {a b : Int}
theorem f114 (s : Sg) (h : s 46 7 = (N : Int)) : f_114 a s = if 0 ≤ a ∧ a < (N : Int) then 1 else 0 := by
  unfold f_114
  by_cases c : a < 0
  · rw [if_pos c, if_neg (by omega)]
  · rw [if_neg c, h]
    by_cases d : (N : Int) ≤ a
    · rw [if_pos d, if_neg (by omega)]
    · rw [if_neg d, if_pos (by omega)]
/-- a node's parts, one after another -/
theorem c119n (hN : ND T sc sm N K) (h8 : N ≤ 8192) (r46 : s 46 = sc 46) (r51 : s 51 = sc 51) (r52 : s 52 = sc 52) {m c q : Nat} (hm : m < N) (e1 : sm 120 m = (c : Int)) (e2 : sm 121 m = (q : Int)) {i : Nat} (hi : i ≤ 3) : f_119 (m : Int) (i : Int) s = some (if i < c then sm 125 (q + i) else -1) := by
  have h46 : s 46 7 = (N : Int) := by rw [r46]; exact hN.1
  have f14 : ∀ z : Int, f_114 z s = if 0 ≤ z ∧ z < (N : Int) then 1 else 0 := fun z => f114 s h46
  obtain ⟨c', q', d1, d2, d3, d4, d5, d6, d7, d8, d9, d10, d11, d12, -⟩ := hN.2.2.2 m hm
  have ec : c' = c := by omega
  have eq' : q' = q := by omega
  subst ec eq'
  have st : ∀ e : Nat, f_121 (if e < c' then sm 125 (q' + e) else -1) s = (if e + 1 < c' then sm 125 (q' + (e + 1)) else -1) ∧ g_121 (if e < c' then sm 125 (q' + e) else -1) s := fun e => by
    by_cases u : e < c'
    · obtain ⟨x, x1, x2, x3⟩ := d12 e u
      rw [if_pos u, x1]
      unfold f_121 g_121
      rw [show f_114 (x : Int) s = 1 from by rw [f14, if_pos (by omega)], if_neg (by decide), Int.toNat_natCast, r52]
      exact ⟨x3, fun _ => trivial, fun _ => ⟨by omega, trivial⟩⟩
    · rw [if_neg u, if_neg (by omega)]
      unfold f_121 g_121
      rw [show f_114 (-1) s = 0 from by rw [f14, if_neg (by omega)], if_pos rfl]
      exact ⟨rfl, fun _ => trivial, fun v => absurd rfl v⟩
  have go : ∀ (r e F : Nat), e + r = i → j_119_9 (F + r + 1) (i : Int) (if e < c' then sm 125 (q' + e) else -1) (e : Int) s = some (if i < c' then sm 125 (q' + i) else -1) := by
    intro r
    induction r with
    | zero =>
      intro e F he
      rw [j_119_9, if_pos (by omega), show e = i by omega]
    | succ r ih =>
      intro e F he
      obtain ⟨s1, s2⟩ := st e
      rw [show F + (r + 1) + 1 = (F + r + 1) + 1 by omega, j_119_9, if_neg (by omega), gd_pos s2, s1, w32_nat (by omega)]
      exact ih (e + 1) F (by omega)
  unfold f_119
  have e120 : f_120 (m : Int) s = (if 0 < c' then sm 125 (q' + 0) else -1) := by
    unfold f_120
    rw [show f_114 (m : Int) s = 1 from by rw [f14, if_pos (by omega)], if_neg (by decide), Int.toNat_natCast, r51, d11]
    rfl
  obtain ⟨F, hF⟩ := FU_split (k := i + 1) (by omega)
  rw [gd_pos (by unfold g_120; exact ⟨fun _ => trivial, fun _ => ⟨by omega, trivial⟩⟩), e120, show FU = F + i + 1 by omega]
  exact go i 0 F (by omega)
theorem node_ (g : GIV s) : RES s (f_286 a b s) (f_200 a b) GIV (b ≠ 1) := by
  obtain ⟨-, -, -, gk, -, -⟩ := id g
  rcases gk with ⟨k1, k2, k3, k4, k5⟩ | ⟨k1, k2, kn⟩
  · refine (RES.no (v := 1) g (by decide) ?_ ?_).wk (fun _ => trivial)
    · unfold f_286 f_8
      rw [show f_114 a s = 0 from by rw [f114 (N := 0) s k4, if_neg (by omega)], if_pos rfl]
      rfl
    · unfold f_200
      rw [k2, if_pos rfl]
      rfl
  · obtain ⟨T, t, n, sc, S, P, A, N, K, C, ck, gd, q1, hS, hK, h54, h59, h60, h57, h48⟩ := kn.ck
    obtain ⟨hT, hX, hC, hD, hN, h19, h31, h34, h30, wz, tw, S8, P8, A8, N8⟩ := id ck
    have h46 : s 46 7 = (N : Int) := by rw [← q1 46 (by decide)]; exact hN.1
    have h47 := hN.2.1
    by_cases c : (0 ≤ a ∧ a < (N : Int)) ∧ (-1 ≤ b ∧ b ≤ 6)
    · obtain ⟨c1, c2⟩ := c
      obtain ⟨m, hm⟩ : ∃ m : Nat, a = (m : Int) := ⟨a.toNat, by omega⟩
      have mN : m < N := by omega
      have a114 : f_114 a s = 1 := by rw [f114 s h46, if_pos c1]
      have gc : (f_114 a s = 0 → True) ∧ (¬ (f_114 a s = 0) → ((0 ≤ a ∧ a < 8192) ∧ True)) := ⟨fun _ => trivial, fun _ => ⟨by omega, trivial⟩⟩
      obtain ⟨cc, q, d1, d2, d3, d4, d5, d6, d7, d8, d9, d10, d11, d12, nv⟩ := hN.2.2.2 m mN
      have r : ∀ s1 : Sg, QF s s1 → ∀ c, 88 ≤ c → c ≤ 135 → s1 c = s c := fun s1 q c u v => q.1 c (by omega) (by omega)
      have w47 : ax_w32 ((N : Int) - 1) = (N : Int) - 1 := w32_id (by omega) (by omega)
      have m1 : ∀ s1 : Sg, QF s s1 → ¬ (s1 84 5 = 0) ∧ ¬ (f_207 a 0 (ax_w32 (s1 84 47 - 1)) (ax_u2 s1 84 0 0) = 0) ∧ ¬ (f_207 b (-1) 6 (ax_u2 s1 84 0 0) = 0) := fun s1 q => by
        rw [q.2 5 (by decide), k2, q.2 47 (by decide), h47, w47, f207, f207, if_pos (by omega), if_pos c2]
        decide
      have cas : b = -1 ∨ b = 0 ∨ b = 1 ∨ b = 2 ∨ 3 ≤ b := by omega
      rcases cas with e | e | e | e | e
      · -- its number
        have key : ∃ v : Int, s 49 m = v ∧ ∀ s1 : Sg, QF s s1 → (if ¬ (s1 116 m) = 0 then (if ¬ (s1 116 m) = 7 then some ((-1), (ax_u2 s1 84 0 0)) else (f_218 (s1 119 m) (ax_u2 s1 84 0 0)).bind fun q2 => some (ax_w32 q2, (ax_u2 s1 84 0 0))) else (f_218 (s1 118 m) (ax_u2 s1 84 0 0)).bind fun q3 => some (ax_w32 q3, (ax_u2 s1 84 0 0))) = some (v, ax_u2 s1 84 0 0) := by
          obtain ⟨v1, v2, v3, v4, v5⟩ := nv
          rw [q1 49 (by decide)] at v1 v2 v3 v4 v5
          by_cases z0 : s 116 m = 0
          · obtain ⟨x, w, u1, u2, u3, u4, u5, u6, u7, u8⟩ := v1 z0
            refine ⟨ax_w32 (T.vl x), u7, fun s1 q => ?_⟩
            rw [r s1 q 116 (by decide) (by decide), if_neg (fun u => u z0), r s1 q 118 (by decide) (by decide), u1, m218 hT (q.tx hX) u3 u5, Option.bind_some]
          · by_cases z7 : s 116 m = 7
            · obtain ⟨x, w, u1, u2, u3, u4, u5, u6, u7, u8⟩ := v3 z7
              have gw := (gd.2.2.2 m mN).2.2.1 z7
              rw [u1, u2, Int.toNat_natCast, Int.toNat_natCast] at gw
              have w0 := (hT.2.2.2.2.1 w u4).1
              refine ⟨T.vl w, ?_, fun s1 q => ?_⟩
              · rw [u7]
                unfold mn
                rw [if_neg (by omega)]
              · rw [r s1 q 116 (by decide) (by decide), if_pos z0, if_neg (fun u => u z7), r s1 q 119 (by decide) (by decide), u2, m218 hT (q.tx hX) u4 u6, Option.bind_some, w32_id (by omega) (by omega)]
            · refine ⟨-1, ?_, fun s1 q => ?_⟩
              · by_cases z3 : s 116 m ≤ 3
                · obtain ⟨x, _, _, _, _, u⟩ := v4 (by omega) z3
                  exact u
                · by_cases z5 : s 116 m = 4 ∨ s 116 m = 5
                  · obtain ⟨w, _, _, _, u, _⟩ := v2 z5
                    exact u
                  · exact (v5 (by omega)).1
              · rw [r s1 q 116 (by decide) (by decide), if_pos z0, if_pos z7]
        obtain ⟨v, v1, v2⟩ := key
        refine (RES.ok (v := v) g ?_ (fun s1 q => ?_)).wk (fun _ => trivial)
        · unfold f_286 f_8
          rw [a114, if_neg (by decide), if_neg (by omega), if_pos (by omega), if_pos e, gd_pos (p := g_115 a s) gc]
          unfold f_115
          rw [a114, if_neg (by decide), hm, Int.toNat_natCast, v1]
          rfl
        · have := v2 s1 q
          obtain ⟨x1, x2, x3⟩ := m1 s1 q
          unfold f_200
          rw [if_neg x1, if_neg x2, if_pos x3, if_neg (fun u => u e), gd_pos (by omega), gd_pos (by omega), gd_pos (by omega), gd_pos (by omega), hm, Int.toNat_natCast]
          exact this
      · -- its kind
        refine (RES.ok (v := s 116 m) g ?_ (fun s1 q => ?_)).wk (fun _ => trivial)
        · unfold f_286 f_8
          rw [a114, if_neg (by decide), if_neg (by omega), if_pos (by omega), if_neg (by omega), if_pos e, gd_pos (p := g_116 a s) gc]
          unfold f_116
          rw [a114, if_neg (by decide), hm, Int.toNat_natCast, ← q1 47 (by decide), d5]
          rfl
        · obtain ⟨x1, x2, x3⟩ := m1 s1 q
          unfold f_200
          rw [if_neg x1, if_neg x2, if_pos x3, if_pos (by omega), if_neg (by omega), if_neg (fun u => u e), gd_pos (by omega), hm, Int.toNat_natCast, r s1 q 116 (by decide) (by decide)]
      · -- its width
        refine ⟨0, s 122 m, ax_u2 s 136 (0 : Int).toNat (s 48 m), ax_u2 (ax_u2 s 136 (0 : Int).toNat (s 48 m)) 84 0 0, ?_, ?_, ((QF.a136 s _).trans (QF.a84 _ 0)).gi g, fun u => absurd e u, u2_row _ _ _ (by decide)⟩
        · unfold f_286 f_8
          rw [a114, if_neg (by decide), if_neg (by omega), if_pos (by omega), if_neg (by omega), if_neg (by omega), if_pos e, gd_pos (p := g_117 a s) gc]
          unfold f_117
          rw [a114, if_neg (by decide), hm, Int.toNat_natCast]
          rfl
        · have q := QF.a136 s (s 48 m)
          obtain ⟨x1, x2, x3⟩ := m1 _ q
          unfold f_200
          rw [if_neg x1, if_neg x2, if_pos x3, if_pos (by omega), if_neg (by omega), if_pos (by omega), if_neg (fun u => u e), gd_pos (by omega), hm, Int.toNat_natCast, r _ q 122 (by decide) (by decide)]
      · -- how many
        refine (RES.ok (v := s 120 m) g ?_ (fun s1 q => ?_)).wk (fun _ => trivial)
        · unfold f_286 f_8
          rw [a114, if_neg (by decide), if_neg (by omega), if_pos (by omega), if_neg (by omega), if_neg (by omega), if_neg (by omega), if_pos e, gd_pos (p := g_118 a s) gc]
          unfold f_118
          rw [a114, if_neg (by decide), hm, Int.toNat_natCast, ← q1 53 (by decide), d4, d1]
          rfl
        · obtain ⟨x1, x2, x3⟩ := m1 s1 q
          unfold f_200
          rw [if_neg x1, if_neg x2, if_pos x3, if_pos (by omega), if_neg (by omega), if_pos (by omega), if_pos (by omega), gd_pos (by omega), hm, Int.toNat_natCast, r s1 q 120 (by decide) (by decide)]
      · -- one of them
        obtain ⟨i, hi⟩ : ∃ i : Nat, b = (i : Int) + 3 := ⟨(b - 3).toNat, by omega⟩
        have wb : ax_w32 (b - 3) = (i : Int) := by rw [w32_id (by omega) (by omega)]; omega
        have e119 := c119n hN N8 (s := s) (q1 46 (by decide)).symm (q1 51 (by decide)).symm (q1 52 (by decide)).symm mN d1 d2 (i := i) (by omega)
        refine (RES.ok (v := if i < cc then s 125 (q + i) else -1) g ?_ (fun s1 q' => ?_)).wk (fun _ => trivial)
        · unfold f_286 f_8
          rw [a114, if_neg (by decide), if_neg (by omega), if_pos (by omega), if_neg (by omega), if_neg (by omega), if_neg (by omega), if_neg (by omega), wb, hm, e119]
          rfl
        · obtain ⟨x1, x2, x3⟩ := m1 s1 q'
          unfold f_200
          rw [if_neg x1, if_neg x2, if_pos x3, if_pos (by omega), if_pos e, gd_pos (by omega), wb, hm, Int.toNat_natCast, r s1 q' 120 (by decide) (by decide), d1]
          by_cases u : i < cc
          · have w2 : ax_w32 (ax_w32 ((q : Int) + b) - 3) = ((q + i : Nat) : Int) := by rw [w32_id (z := (q : Int) + b) (by omega) (by omega), w32_id (by omega) (by omega)]; omega
            rw [if_neg (by omega), gd_pos (by omega), r s1 q' 121 (by decide) (by decide), d2, w2, gd_pos (by omega), r s1 q' 125 (by decide) (by decide), Int.toNat_natCast, if_pos u]
          · rw [if_pos (by omega), if_neg u]
    · refine (RES.no (v := 1) g (by decide) ?_ ?_).wk (fun _ => trivial)
      · unfold f_286 f_8
        rw [f114 (N := N) s h46]
        by_cases c1 : 0 ≤ a ∧ a < (N : Int)
        · rw [if_pos c1, if_neg (by decide)]
          by_cases d : b < -1
          · rw [if_pos d]; rfl
          · rw [if_neg d, if_neg (by omega)]; rfl
        · rw [if_neg c1, if_pos rfl]; rfl
      · unfold f_200
        rw [k2, if_neg (by decide), f207, h47, w32_id (z := (N : Int) - 1) (by omega) (by omega)]
        by_cases c1 : 0 ≤ a ∧ a < (N : Int)
        · rw [if_pos (show 0 ≤ a ∧ a ≤ (N : Int) - 1 by omega), if_neg (by decide), f207, if_neg (fun u => c ⟨c1, u⟩), if_neg (by decide)]; rfl
        · rw [if_neg (show ¬ (0 ≤ a ∧ a ≤ (N : Int) - 1) by omega), if_pos rfl]; rfl
/-- BITS: it comes to an end -/
theorem c75t (hT : TWF T) (hc : CC T s) (hX : TX T s sm n t) (b : Int) : ∀ (r l F : Nat) (v : Int), l + r = T.z → 1 ≤ l → ∃ q : Int, j_75_5 (F + r + 1) b v (l : Int) s = some q := by
  have h8 := hT.1
  have n8 := hX.1.2.1
  have inn : ∀ (k5 : Int → Int → Int → Sg → Option Int) (l : Nat), l < T.z → ∀ v : Int, ∃ v', j_75_67 k5 FU b v (l : Int) 0 s = k5 b v' ((l + 1 : Nat) : Int) s := fun k5 l hl v => by
    obtain ⟨i, j, a1, a2, a3, a4, a5, a6, -⟩ := hX.2.2.2 l hl
    obtain ⟨u1, u2⟩ := c82 hT hc hl
    obtain ⟨w1, w2⟩ := c80 hc hT (a := l) (by omega)
    have go : ∀ (d e F : Nat) (v : Int), i + e + d = j → ∃ v', j_75_67 k5 (F + d + 1) b v (l : Int) (e : Int) s = k5 b v' ((l + 1 : Nat) : Int) s := by
      intro d
      induction d with
      | zero =>
        intro e F v he
        refine ⟨v, ?_⟩
        rw [j_75_67, gd_pos u2, u1, a2, if_pos (by omega)]
        unfold j_75_129
        rw [w32_nat (by omega)]
      | succ d ih =>
        intro e F v he
        obtain ⟨y1, y2⟩ := hX.1.at (i + e)
        rw [show F + (d + 1) + 1 = (F + d + 1) + 1 by omega, j_75_67, gd_pos u2, u1, a2, if_neg (by omega), gd_pos w2, w1, a1, w32_add (by omega), gd_pos y2, w32_nat (by omega)]
        exact ih (e + 1) F _ (by omega)
    obtain ⟨F, hF⟩ := FU_split (k := j - i + 1) (by omega)
    rw [show FU = F + (j - i) + 1 by omega]
    exact go (j - i) 0 F v (by omega)
  intro r
  induction r with
  | zero =>
    intro l F v hl h1
    exact ⟨v, by rw [j_75_5, hc.1, if_pos (by omega)]⟩
  | succ r ih =>
    intro l F v hl h1
    obtain ⟨u1, u2⟩ := c79 hc hT (a := l) (by omega)
    obtain ⟨w1, w2⟩ := c79 hc hT (a := l - 1) (by omega)
    obtain ⟨x1, x2⟩ := c81 hc hT (a := l) (by omega)
    have el : ax_w32 ((l : Int) - 1) = ((l - 1 : Nat) : Int) := by rw [w32_id (by omega) (by omega)]; omega
    rw [show F + (r + 1) + 1 = (F + r + 1) + 1 by omega, j_75_5, hc.1, if_neg (by omega), gd_pos u2, u1]
    by_cases c1 : T.tk l = 123
    · rw [if_pos c1]
      exact ⟨v, rfl⟩
    · rw [if_neg c1, gd_pos u2]
      by_cases c2 : T.tk l = 2
      · rw [if_pos c2, el, gd_pos w2, w1]
        by_cases c3 : T.tk (l - 1) = 58
        · rw [if_neg (fun u => u c3), gd_pos x2]
          unfold j_75_129
          rw [w32_nat (by omega)]
          exact ih (l + 1) F _ (by omega) (by omega)
        · rw [if_pos c3]
          obtain ⟨v', e⟩ := inn (j_75_5 (F + r + 1)) l (by omega) v
          rw [e]
          exact ih (l + 1) F _ (by omega) (by omega)
      · rw [if_neg c2]
        unfold j_75_129
        rw [w32_nat (by omega)]
        exact ih (l + 1) F _ (by omega) (by omega)
theorem m199t (h : CKX T sc s n t S P A N K C w) (g : GOOD T sc s S A N w) (b : Int) {i p0 pc : Nat} (hi : i < S) (e98 : s 98 i = (p0 : Int)) (e99 : s 99 i = (pc : Int)) (hP : p0 + pc ≤ P) : ∀ (r l F : Nat) (v : Int), l + r = p0 + pc → p0 ≤ l → ∃ q : Int, j_199_57 (F + r + 1) (i : Int) b v (l : Int) s = some (q, s) := by
  obtain ⟨hT, hX, hC, hD, hN, h19, h31, h34, h30, wz, tw, S8, P8, A8, N8⟩ := id h
  have h8 := hT.1
  have n8 := hX.1.2.1
  have inn : ∀ (k57 : Int → Int → Int → Int → Sg → Option (Int × Sg)) (l : Nat), p0 ≤ l → l < p0 + pc → ∀ v : Int, ∃ v', j_199_78 k57 FU (i : Int) b v (l : Int) 0 s = k57 (i : Int) b v' ((l + 1 : Nat) : Int) s := fun k57 l l1 l2 v => by
    have e219 := m219 h g hi (q := l) (by rw [e98, Int.toNat_natCast]; exact l1) (by rw [e98, e99, Int.toNat_natCast, Int.toNat_natCast]; exact l2) (AG.refl s)
    have gp := (g.2.1 i hi).2.2.2.2 l (by rw [e98, Int.toNat_natCast]; exact l1) (by rw [e98, e99, Int.toNat_natCast, Int.toNat_natCast]; exact l2)
    obtain ⟨x, g1, g2, g3, g4⟩ := hD.prt (p := l) (by omega)
    obtain ⟨i1, j1, e1, e2, e3, e4, e5, e6, -⟩ := hX.nu g2 g3
    obtain ⟨W, hW, hWb, hWe⟩ : ∃ W : Nat, f_219 (l : Int) s = some (W : Int) ∧ W ≤ 8192 ∧ (s 104 l < 0 → W = j1 - i1) := by
      by_cases c : s 104 l < 0
      · refine ⟨j1 - i1, ?_, by omega, fun _ => rfl⟩
        rw [e219, if_pos c, g1, Int.toNat_natCast, e2]
        congr 1
        omega
      · have gv := gp.1 (by omega)
        rw [g1, Int.toNat_natCast] at gv
        refine ⟨(T.vl x).toNat, ?_, by omega, fun u => absurd u c⟩
        rw [e219, if_neg c, g1, Int.toNat_natCast]
        congr 1
        unfold mn
        rw [if_neg (by omega)]
        omega
    have go : ∀ (d e F : Nat) (v : Int), e + d = W → ∃ v', j_199_78 k57 (F + d + 1) (i : Int) b v (l : Int) (e : Int) s = k57 (i : Int) b v' ((l + 1 : Nat) : Int) s := by
      intro d
      induction d with
      | zero =>
        intro e F v he
        refine ⟨v, ?_⟩
        rw [j_199_78, hW, Option.bind_some, if_pos (by omega)]
        unfold j_199_157
        rw [w32_nat (by omega)]
      | succ d ih =>
        intro e F v he
        rw [show F + (d + 1) + 1 = (F + d + 1) + 1 by omega, j_199_78, hW, Option.bind_some, if_neg (by omega), gd_pos (by omega), Int.toNat_natCast]
        by_cases c : 0 ≤ s 104 l
        · rw [if_pos c]
          unfold j_199_133 j_199_134
          rw [w32_nat (by omega)]
          exact ih (e + 1) F _ (by omega)
        · rw [if_neg c]
          have := hWe (by omega)
          by_cases c1 : b = 1
          · rw [if_pos c1]
            unfold j_199_129 j_199_134
            rw [w32_nat (by omega)]
            exact ih (e + 1) F _ (by omega)
          · rw [if_neg c1, gd_pos (by omega), g1, gd_pos (by omega), Int.toNat_natCast, e3, w32_add (by omega), gd_pos (by omega)]
            unfold j_199_134
            rw [w32_nat (by omega)]
            exact ih (e + 1) F _ (by omega)
    obtain ⟨F, hF⟩ := FU_split (k := W + 1) (by omega)
    rw [show FU = F + W + 1 by omega]
    exact go W 0 F v (by omega)
  intro r
  induction r with
  | zero =>
    intro l F v hl h1
    refine ⟨v, ?_⟩
    rw [j_199_57, gd_pos (by omega), gd_pos (by omega), Int.toNat_natCast, e98, e99, w32_add (by omega), if_pos (by omega)]
  | succ r ih =>
    intro l F v hl h1
    obtain ⟨v', e⟩ := inn (j_199_57 (F + r + 1)) l h1 (by omega) v
    rw [show F + (r + 1) + 1 = (F + r + 1) + 1 by omega, j_199_57, gd_pos (by omega), gd_pos (by omega), Int.toNat_natCast, e98, e99, w32_add (by omega), if_neg (by omega), e]
    exact ih (l + 1) F v' (by omega) (by omega)
theorem bits_ (g : GIV s) : RES s (f_285 a b s) (f_199 a b) GIV False := by
  obtain ⟨-, -, -, gk, -, -⟩ := id g
  rcases gk with ⟨k1, k2, k3, k4, k5⟩ | ⟨k1, k2, kn⟩
  · refine (RES.no (v := 1) g (by decide) ?_ ?_).wk (fun u => u.elim)
    · unfold f_285 f_7
      rw [show f_181 a s = 0 from by rw [f181 (S := 0) s k3, if_neg (by omega)], if_pos rfl]
      rfl
    · unfold f_199 f_217
      rw [u2_col _ _ _ (by decide), k2, if_pos rfl, if_pos rfl]
      rfl
  · obtain ⟨T, t, n, sc, S, P, A, N, K, C, ck, gd, q1, hS, hK, h54, -⟩ := kn.ck
    obtain ⟨hT, hX, hC, hD, hN, h19, h31, h34, h30, wz, tw, S8, P8, A8, N8⟩ := id ck
    by_cases c : (0 ≤ a ∧ a < (S : Int)) ∧ (0 ≤ b ∧ b ≤ 1)
    · obtain ⟨c1, c2⟩ := c
      obtain ⟨i, hi⟩ : ∃ i : Nat, a = (i : Int) := ⟨a.toNat, by omega⟩
      have iS : i < S := by omega
      have a181 : f_181 a s = 1 := by rw [f181 (S := S) s h54, if_pos c1]
      have m217 : ∀ s1 : Sg, QF s s1 → f_217 a (ax_u2 s1 84 0 0) = 1 := fun s1 q => by rw [f217 (S := S) _ (by rw [u2_col _ _ _ (by decide), q.2 5 (by decide)]; exact k2) (by rw [u2_col _ _ _ (by decide), q.2 19 (by decide)]; exact h19) (by omega), if_pos c1]
      have gc : (f_181 a s = 0 → True) ∧ (¬ (f_181 a s = 0) → ((0 ≤ a ∧ a < 1171) ∧ True)) := ⟨fun _ => trivial, fun _ => ⟨by omega, trivial⟩⟩
      obtain ⟨hd, p0, pc, n0, b1, b2, b3, b4, b5, b6, b7, b8, b9, b10, b11⟩ := hD.1 i iS
      have e182 : f_182 a s = s 94 i := by unfold f_182; rw [a181, if_neg (by decide), hi, Int.toNat_natCast, ← q1 55 (by decide), b5]
      have e187 : f_187 a s = (hd : Int) := by unfold f_187; rw [a181, if_neg (by decide), hi, Int.toNat_natCast, ← q1 56 (by decide), b1]
      by_cases d : s 94 i = 3
      · have hcs : CC T s := hC.row (by rw [q1 39 (by decide)]) (q1 41 (by decide)).symm (q1 42 (by decide)).symm (q1 44 (by decide)).symm (by rw [q1 31 (by decide)]) (q1 1 (by decide)).symm
        have hXs : TX T s s n t := hX.cg (fun c u => (q1 c (by omega)).symm) (fun _ _ => rfl) rfl
        obtain ⟨F, hF⟩ := FU_split (k := T.z - (hd + 1) + 1) (by have := hT.1; omega)
        obtain ⟨v, ev⟩ := c75t hT hcs hXs ((if ¬ b = 0 then 0 else 1) : Int) (T.z - (hd + 1)) (hd + 1) F 0 (by omega) (by omega)
        have e75 : f_75 ((hd + 1 : Nat) : Int) ((if ¬ b = 0 then 0 else 1) : Int) s = some v := by
          unfold f_75
          rw [show FU = F + (T.z - (hd + 1)) + 1 by omega]
          exact ev
        obtain ⟨s1, hs1⟩ : ∃ z : Sg, z = ax_u2 s 136 (0 : Int).toNat v := ⟨_, rfl⟩
        have qf : QF s s1 := by rw [hs1]; exact QF.a136 s v
        have qf2 : QF s (ax_u2 s1 84 0 0) := qf.trans (QF.a84 _ 0)
        have mv : MVr sc s sc (ax_u2 s1 84 0 0) := ⟨fun _ _ _ => rfl, Iff.rfl, fun c u _ w => qf2.1 c u (by omega), fun j _ _ _ u => qf2.2 j u.2.1⟩
        have ck2 : CKX T sc (ax_u2 s1 84 0 0) n t S P A N K C 1 := by rw [CKX_mv mv]; exact ck
        have gd2 : GOOD T sc (ax_u2 s1 84 0 0) S A N 1 := by rw [GOOD_mv mv]; exact gd
        obtain ⟨F2, hF2⟩ := FU_split (k := pc + 1) (by omega)
        obtain ⟨v2, ev2⟩ := m199t ck2 gd2 b iS (by rw [qf2.1 98 (by decide) (by decide)]; exact b6) (by rw [qf2.1 99 (by decide) (by decide)]; exact b7) b8 pc p0 F2 0 (by omega) (by omega)
        refine ⟨0, v2, s1, ax_u2 s1 84 0 0, ?_, ?_, qf2.gi g, fun u => u.elim, by rw [hs1]; exact u2_row _ _ _ (by decide)⟩
        · unfold f_285 f_7
          rw [a181, if_neg (by decide), if_neg (by omega), if_pos (by omega), gd_pos (p := g_182 a s) gc, e182, if_pos d, gd_pos (p := g_187 a s) gc, e187, w32_nat (by have := hT.1; omega), e75, hs1]
          rfl
        · unfold f_199
          rw [m217 s1 qf, if_neg (by decide), f207, if_pos c2, if_pos (by decide), gd_pos (by omega), hi, Int.toNat_natCast, qf.1 94 (by decide) (by decide), if_pos d, gd_pos (by omega), qf.1 98 (by decide) (by decide), b6, show FU = F2 + pc + 1 by omega]
          exact ev2
      · refine (RES.no (v := 2) g (by decide) ?_ ?_).wk (fun u => u.elim)
        · unfold f_285 f_7
          rw [a181, if_neg (by decide), if_neg (by omega), if_pos (by omega), gd_pos (p := g_182 a s) gc, e182, if_neg d]
          rfl
        · unfold f_199
          rw [m217 s (QF.refl s), if_neg (by decide), f207, if_pos c2, if_pos (by decide), gd_pos (by omega), hi, Int.toNat_natCast, if_neg d]
          rfl
    · refine (RES.no (v := 1) g (by decide) ?_ ?_).wk (fun u => u.elim)
      · unfold f_285 f_7
        rw [f181 (S := S) s h54]
        by_cases c1 : 0 ≤ a ∧ a < (S : Int)
        · rw [if_pos c1, if_neg (by decide)]
          by_cases d : b < 0
          · rw [if_pos d]; rfl
          · rw [if_neg d, if_neg (by omega)]; rfl
        · rw [if_neg c1, if_pos rfl]; rfl
      · unfold f_199
        rw [f217 (S := S) _ (by rw [u2_col _ _ _ (by decide)]; exact k2) (by rw [u2_col _ _ _ (by decide)]; exact h19) (by omega)]
        by_cases c1 : 0 ≤ a ∧ a < (S : Int)
        · rw [if_pos c1, if_neg (by decide), f207, if_neg (fun u => c ⟨c1, u⟩), if_neg (by decide)]; rfl
        · rw [if_neg c1, if_pos rfl]; rfl
end NOB
