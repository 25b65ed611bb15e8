/-! WIDTHS: what is claimed of them. -/
def TWR (W : Nat → Int) (iv wd ix : Int) (v : Nat) : Prop := (0 ≤ ix ∧ W ix.toNat ≠ 0 ∧ W ix.toNat ≠ iv) ∨ ((ix < 0 ∨ W ix.toNat ≠ 0 ∧ W ix.toNat = iv) ∧ W v ≠ 0 ∧ W v ≠ wd)
def bwS (T : TT) (W : Nat → Int) (sm : Sg) (i : Nat) : Prop := sm 94 i = 2 ∧ W (sm 100 i).toNat ≠ 0 ∧ W (sm 100 i).toNat ≠ T.vl (sm 97 i).toNat
def bwA (T : TT) (W : Nat → Int) (sm : Sg) (S a : Nat) : Prop := (sm 106 a = 1 ∧ W (sm 110 a).toNat ≠ 0 ∧ W (sm 110 a).toNat ≠ 1) ∨ (sm 106 a = 0 ∧ ∃ i, SO1 T sm S (T.vl (sm 107 a).toNat) i ∧ TWR W (iw T sm i) (T.vl (sm 97 i).toNat) (sm 109 a) (sm 110 a).toNat)
def bcW (T : TT) (W : Nat → Int) (sc sm : Sg) (S c : Nat) : Prop := (sc 65 c = 0 ∧ ∃ i, SO1 T sm S (T.vl (sc 62 c).toNat) i ∧ TWR W (iw T sm i) (T.vl (sm 97 i).toNat) (sc 63 c) (sc 64 c).toNat) ∨ (sc 65 c ≠ 0 ∧ W (sc 64 c).toNat ≠ 0 ∧ W (sc 64 c).toNat ≠ sc 65 c)
section WCM
variable {T : TT} {sc sm s s' x y : Sg} {n' S P A N K C w i n c q a : Nat} {t : Nat → Int}
/-- an assignment's target -/
theorem CKX.tgt (h : CKX T sc sm n' t S P A N K C w) (g : GOOD T sc sm S A N w) (n6 : ¬ BD6 T sm S A N) (n7 : ¬ BD7 T sm S A N) (ha : a < A) (hk : sm 106 a = 0) : ∃ i x v : Nat, sm 107 a = (x : Int) ∧ x < T.z ∧ T.tk x = 1 ∧ SO1 T sm S (T.vl x) i ∧ sc 36 (T.vl x).toNat = (i : Int) ∧ FIT sm (if sm 109 a < 0 then 1 else 2) i 0 ∧ (sm 109 a = -1 ∨ ∃ m : Nat, sm 109 a = (m : Int) ∧ m < N) ∧ sm 110 a = (v : Int) ∧ v < N := by
  obtain ⟨hT, hX, hC, hD, hN, h19, h31, h34, h30, wz, tw, S8, P8, A8, N8⟩ := h
  obtain ⟨si, b1, b2, b3, b4, b5⟩ := hD.act ha
  obtain ⟨x, x1, x2, x3⟩ := b5 (Or.inl hk)
  have no := (g.2.2.1 a ha).2.2 hk
  have v1 := hT.2.2.2.2.1 x x2
  have v2 := hT.2.2.2.2.2.1 x x2 x3
  have vi : (((T.vl x).toNat : Nat) : Int) = T.vl x := by omega
  have ns : ¬ NOS T sm S (T.vl x) := fun z => n6 (Or.inr ⟨a, ha, hk, no, by rw [x1, Int.toNat_natCast]; exact z⟩)
  obtain ⟨sa, _, _, _, _, _, _, b7⟩ := hD.2.1 a ha
  have b8 : (sm 109 a = -1 ∨ ∃ m : Nat, sm 109 a = (m : Int) ∧ m < N) ∧ ∃ m : Nat, sm 110 a = (m : Int) ∧ m < N := by
    rcases b7 with ⟨_, _, u, u'⟩ | ⟨u, -⟩ | ⟨u, -⟩ | ⟨u, -⟩
    · exact ⟨u, u'⟩
    · omega
    · omega
    · omega
  obtain ⟨b8, v, b9, b10⟩ := b8
  rcases hD.2.2.2.2.2.1 (T.vl x).toNat (IDN.at hT x2 x3) with ⟨u1, u2⟩ | ⟨j, u1, u2, u3⟩
  · rw [vi] at u2
    exact absurd u2 ns
  · rw [vi] at u3
    have so : SO1 T sm S (T.vl x) j := ⟨u1, u3, fun l hl e => (g.2.1 j u1).2.2.2.1 l hl (by rw [e, u3])⟩
    refine ⟨j, x, v, x1, x2, x3, so, u2, ?_, b8, b9, b10⟩
    exact Classical.byContradiction (fun z => n7 (Or.inr ⟨a, ha, hk, Or.inr ⟨no, j, by rw [x1, Int.toNat_natCast]; exact so, z⟩⟩))
/-- both sides claim the same -/
theorem cl_iff (h : CKX T sc sm n' t S P A N K C w) (g : GOOD T sc sm S A N w) {W : Nat → Int} : (∃ c, c < C ∧ bcW T W sc sm S c) ↔ ((∃ i, i < S ∧ bwS T W sm i) ∨ (∃ a, a < A ∧ bwA T W sm S a)) := by
  have hm97 := fun i (hi : i < S) (hk : sm 94 i < 3) => m97 h g (s := sm) ⟨fun _ _ _ => rfl, fun _ _ => rfl⟩ hi hk
  obtain ⟨hT, hX, hC, hD, hN, -⟩ := h
  have cn := hD.2.2.2.2.2.2.1.mpr g
  obtain ⟨l1, l2, l3, l4⟩ := hD.2.2.1
  have w65 : ∀ i, i < S → sm 94 i = 2 → (if sc 57 i < 1 then 1 else sc 57 i) = T.vl (sm 97 i).toNat ∧ T.vl (sm 97 i).toNat ≠ 0 := fun i hi e => by
    obtain ⟨c9, w1, w2, w3, w4, w5, w6⟩ := hm97 i hi (by omega)
    rw [w6, w1, Int.toNat_natCast, if_neg (by omega)]
    exact ⟨rfl, by omega⟩
  constructor
  · intro ⟨c, hc, b⟩
    rcases l1 c hc with ⟨a, ha, a2, a3, a4, a5, a6⟩ | ⟨a, ha, a2, a3, a4, a5, a6⟩ | ⟨i, hi, a2, a3, a4, a5, a6⟩
    · rcases b with ⟨_, j, so, tw⟩ | ⟨b, _⟩
      · right
        rw [a3] at so
        rw [a4, a5] at tw
        exact ⟨a, ha, Or.inr ⟨a2, j, so, tw⟩⟩
      · exact absurd a6 b
    · rcases b with ⟨b, _⟩ | ⟨_, b1, b2⟩
      · omega
      · right
        rw [a5] at b1 b2
        rw [a6] at b2
        exact ⟨a, ha, Or.inl ⟨a2, b1, b2⟩⟩
    · obtain ⟨w1, w2⟩ := w65 i hi a2
      rw [w1] at a6
      rcases b with ⟨b, _⟩ | ⟨_, b1, b2⟩
      · exact absurd (a6.symm.trans b) w2
      · left
        rw [a5] at b1 b2
        rw [a6] at b2
        exact ⟨i, hi, a2, b1, b2⟩
  · intro b
    rcases b with ⟨i, hi, a2, b1, b2⟩ | ⟨a, ha, b⟩
    · obtain ⟨c, hc, c1, c2, c3, c4⟩ := l4 i hi a2
      obtain ⟨w1, w2⟩ := w65 i hi a2
      rw [w1] at c4
      exact ⟨c, hc, Or.inr ⟨by rw [c4]; exact w2, by rw [c3]; exact b1, by rw [c3, c4]; exact b2⟩⟩
    · rcases b with ⟨a2, b1, b2⟩ | ⟨a2, j, so, tw⟩
      · obtain ⟨c, hc, c1, c2, c3, c4⟩ := l3 a ha a2
        exact ⟨c, hc, Or.inr ⟨by rw [c4]; decide, by rw [c3]; exact b1, by rw [c3, c4]; exact b2⟩⟩
      · obtain ⟨c, hc, c1, c2, c3, c4⟩ := l2 cn a ha a2
        exact ⟨c, hc, Or.inl ⟨c4, j, by rw [c1]; exact so, by rw [c2, c3]; exact tw⟩⟩
/-- the class's claims -/
theorem c19c (h : CKX T sc sm n' t S P A N K C w) (g : GOOD T sc sm S A N w) (n6 : ¬ BD6 T sm S A N) (n7 : ¬ BD7 T sm S A N) (h54 : sc 54 6 = (S : Int)) (hS8 : S ≤ 1171) (h61 : sc 61 4 = (C : Int)) (hC8 : C ≤ 2049) (wi : WIN sc sm N x y) : ∃ x' : Sg, j_19_80 x = some x' ∧ NTk 9 x x' (∃ c, c < C ∧ bcW T (x 48) sc sm S c) := by
  have htgt := fun a (ha : a < A) (hk : sm 106 a = 0) => h.tgt g n6 n7 ha hk
  have hm97 := fun i (hi : i < S) (hk : sm 94 i < 3) => m97 h g (s := sm) ⟨fun _ _ _ => rfl, fun _ _ => rfl⟩ hi hk
  obtain ⟨hT, hX, hC, hD, hN, h19, h31, h34, h30, wz, tw, S8, P8, A8, N8⟩ := id h
  obtain ⟨i1, i2, i3, i4, i5, i6⟩ := wi
  have z8 := hT.1
  have step : ∀ F c s, c < C → (∀ b, b ≠ 30 → s b = x b) → ∃ s' : Sg, j_19_82 (F + 1) (c : Int) s = j_19_82 F ((c + 1 : Nat) : Int) s' ∧ NTk 9 s s' (bcW T (x 48) sc sm S c) := by
    intro F c s hc y0
    have y1 : ∀ b, b ≠ 30 → b ≠ 48 → s b = sc b := fun b u v => by rw [y0 b u]; exact i1 b u v
    have hcc : CC T s := hC.row (by rw [y1 39 (by decide) (by decide)]) (y1 41 (by decide) (by decide)) (y1 42 (by decide) (by decide)) (y1 44 (by decide) (by decide)) (by rw [y1 31 (by decide) (by decide)]) (y1 1 (by decide) (by decide))
    have r61 : s 61 4 = (C : Int) := by rw [y1 61 (by decide) (by decide)]; exact h61
    have e39 : f_39 (c : Int) s = 1 := by unfold f_39; rw [r61, if_neg (by omega), if_neg (by omega)]
    have gg : (f_39 (c : Int) s = 0 → True) ∧ (¬ (f_39 (c : Int) s = 0) → ((0 ≤ (c : Int) ∧ (c : Int) < 2049) ∧ True)) := ⟨fun _ => trivial, fun _ => ⟨by omega, trivial⟩⟩
    have g34 : g_34 (c : Int) s := gg
    have g35 : g_35 (c : Int) s := gg
    have g36 : g_36 (c : Int) s := gg
    have g40 : g_40 (c : Int) s := gg
    have g41 : g_41 (c : Int) s := gg
    have f34 : f_34 (c : Int) s = p01 (sc 65 c = 0) := by
      unfold f_34
      rw [e39, if_neg (by decide), Int.toNat_natCast, y1 65 (by decide) (by decide)]
      by_cases d : sc 65 c = 0
      · rw [if_neg (fun e => e d), p01_y d]
      · rw [if_pos d, p01_n d]
    have f35 : f_35 (c : Int) s = sc 62 c := by unfold f_35; rw [e39, if_neg (by decide), Int.toNat_natCast, y1 62 (by decide) (by decide)]
    have f36 : f_36 (c : Int) s = sc 63 c := by unfold f_36; rw [e39, if_neg (by decide), Int.toNat_natCast, y1 63 (by decide) (by decide)]
    have f40 : f_40 (c : Int) s = sc 64 c := by unfold f_40; rw [e39, if_neg (by decide), Int.toNat_natCast, y1 64 (by decide) (by decide)]
    have f41 : f_41 (c : Int) s = sc 65 c := by unfold f_41; rw [e39, if_neg (by decide), Int.toNat_natCast, y1 65 (by decide) (by decide)]
    have k146 : ∀ z : Sg, j_19_146 (j_19_82 F) (c : Int) z = j_19_82 F ((c + 1 : Nat) : Int) z := fun z => by
      unfold j_19_146
      rw [w32_nat (by omega)]
    have w117 : ∀ m : Nat, m < N → g_117 (m : Int) s ∧ f_117 (m : Int) s = x 48 m := fun m hm => by
      obtain ⟨o1, o2, -⟩ := nd117 (s := s) hN.1 hm N8 (by rw [y1 46 (by decide) (by decide)])
      exact ⟨o1, by rw [o2, y0 48 (by decide)]⟩
    have lexb : ∃ lx : Nat, sc 62 c = (lx : Int) ∧ lx < T.z := by
      rcases hD.2.2.1.1 c hc with ⟨a, ha, a2, a3, _⟩ | ⟨a, ha, a2, a3, _⟩ | ⟨i, hi, a2, a3, _⟩
      · obtain ⟨i, xx, v, t1, t2, _⟩ := htgt a ha a2
        exact ⟨xx, by rw [a3]; exact t1, t2⟩
      · obtain ⟨sa, _, _, _, _, _, _, b7⟩ := hD.2.1 a ha
        rcases b7 with ⟨u, -⟩ | ⟨_, _, xx, u1, u2⟩ | ⟨u, -⟩ | ⟨u, -⟩
        · omega
        · exact ⟨xx, by rw [a3]; exact u1, u2⟩
        · omega
        · omega
      · obtain ⟨hd, p0, pc, n0, b1, b2, b3, b4, b5, b6, b7, b8, b9, b10, b11⟩ := hD.1 i hi
        rcases b11 with ⟨u, -⟩ | ⟨u, -⟩ | ⟨_, _, _, u⟩ | ⟨u, -⟩
        · omega
        · omega
        · obtain ⟨st, e, m0, m1, d1, d2, d3, d4, d5, d6, d7, d8, -⟩ := u
          exact ⟨st, by rw [a3]; exact d5, by omega⟩
        · omega
    obtain ⟨lx, lx1, lx2⟩ := lexb
    have fin : ∀ p : Prop, ∃ s' : Sg, j_19_117 (j_19_82 F) (c : Int) (p01 (¬ p)) s = j_19_82 F ((c + 1 : Nat) : Int) s' ∧ NTk 9 s s' p := by
      intro p
      unfold j_19_117
      by_cases d : p
      · obtain ⟨o1, o2⟩ := c80 (a := lx) hcc hT (by omega)
        have f0 := hT.2.2.2.1 lx (by omega)
        obtain ⟨k1, k2⟩ := c71k (s := s) (k := 9) (x := T.fm lx) (by decide) (by decide) f0
        have k1' : g_71 9 (T.fm lx) s := k1
        rw [p01_n (fun u => u d), if_neg (by decide), gd_pos g35, f35, lx1, gd_pos o2, o1, gd_pos k1', Option.bind_some, k146]
        exact ⟨_, rfl, NTk.iff (p := True) k2 ⟨fun _ => d, fun _ => trivial⟩⟩
      · rw [p01_y d, if_pos (by decide), k146]
        exact ⟨s, rfl, (NTk.refl s).iff ⟨fun u => u.elim, fun u => d u⟩⟩
    rw [j_19_82, r61, if_neg (by omega), gd_pos g34, f34]
    by_cases d : sc 65 c = 0
    · rw [p01_y d, if_neg (by decide)]
      rcases hD.2.2.1.1 c hc with ⟨a, ha, a2, a3, a4, a5, a6⟩ | ⟨a, ha, a2, a3, a4, a5, a6⟩ | ⟨j, hj, a2, a3, a4, a5, a6⟩
      · obtain ⟨j, xx, v, t1, t2, t3, so, e36, ft, t4, t5, t6⟩ := htgt a ha a2
        have i8 := so.1
        have h94 : sm 94 j < 3 := by
          rcases ft with u | u | u
          · omega
          · omega
          · omega
        obtain ⟨c9, w1, w2, w3, w4, w5, w6⟩ := hm97 j so.1 h94
        obtain ⟨p1, p2, -⟩ := c183 (s := s) (by rw [y1 54 (by decide) (by decide)]; exact h54) so.1 hS8
        have e62 : sc 62 c = (xx : Int) := by rw [a3]; exact t1
        obtain ⟨u1, u2⟩ := c26 hT hcc t2 t3
        obtain ⟨v1, v2⟩ := w117 v t6
        have e56 : j_24_56 (c : Int) (j : Int) s = some (p01 (¬ (x 48 v ≠ 0 ∧ x 48 v ≠ T.vl c9))) := by
          unfold j_24_56
          rw [gd_pos g40, f40, a5, t5, gd_pos v1, v2]
          by_cases k1 : x 48 v = 0
          · rw [if_pos k1, p01_y (fun u => u.1 k1)]
          · rw [if_neg k1, gd_pos p1, p2, y1 57 (by decide) (by decide), w6]
            by_cases k2 : x 48 v = T.vl c9
            · rw [if_neg (fun e => e k2), p01_y (fun u => u.2 k2)]
            · rw [if_pos k2, p01_n (fun u => u ⟨k1, k2⟩)]
        have e24 : f_24 (c : Int) s = some (p01 (¬ TWR (x 48) (iw T sm j) (T.vl c9) (sm 109 a) v)) := by
          unfold f_24
          rw [gd_pos g35, f35, e62, gd_pos u1, gd_pos g36, f36, a4, u2, y1 36 (by decide) (by decide), e36]
          rcases t4 with t4 | ⟨m, t4, t7⟩
          · rw [if_pos t4, e56]
            congr 1
            refine p01_c (not_congr ?_)
            unfold TWR
            exact ⟨fun u => Or.inr ⟨Or.inl (by omega), u⟩, fun u => by
              rcases u with u | u
              · omega
              · exact u.2⟩
          · obtain ⟨m1, m2⟩ := w117 m t7
            have hf : sm 94 j = 1 ∨ sm 94 j = 0 ∧ 0 ≤ sm 96 j := by
              rw [if_neg (by omega)] at ft
              rcases ft with ⟨u, _⟩ | u | ⟨u, _⟩
              · exact absurd u (by decide)
              · exact u.2
              · exact absurd u (by decide)
            rw [if_neg (by omega), t4, gd_pos m1, m2]
            by_cases k1 : x 48 m = 0
            · rw [if_neg (fun e => e k1), p01_y]
              intro u
              unfold TWR at u
              rw [Int.toNat_natCast] at u
              rcases u with u | u
              · exact u.2.1 k1
              · rcases u.1 with u1 | u1
                · omega
                · exact u1.1 k1
            · rw [if_pos k1, c28 h g y1 h54 hS8 so.1 hf, Option.bind_some]
              by_cases k2 : x 48 m = iw T sm j
              · rw [if_pos k2, e56]
                congr 1
                refine p01_c (not_congr ?_)
                unfold TWR
                rw [Int.toNat_natCast]
                exact ⟨fun u => Or.inr ⟨Or.inr ⟨k1, k2⟩, u⟩, fun u => by
                  rcases u with u | u
                  · exact absurd k2 u.2.2
                  · exact u.2⟩
              · rw [if_neg k2, p01_n (fun u => u (Or.inl ⟨by omega, by rw [Int.toNat_natCast]; exact k1, by rw [Int.toNat_natCast]; exact k2⟩))]
        rw [e24, Option.bind_some]
        obtain ⟨s', f1, f2⟩ := fin (TWR (x 48) (iw T sm j) (T.vl c9) (sm 109 a) v)
        refine ⟨s', f1, f2.iff ?_⟩
        unfold bcW
        rw [e62, Int.toNat_natCast, a4, a5, t5, Int.toNat_natCast]
        exact ⟨fun u => Or.inl ⟨d, j, so, by rw [w1, Int.toNat_natCast]; exact u⟩, fun u => by
          rcases u with ⟨_, j', so', u⟩ | ⟨u, _⟩
          · rw [← so.uniq so', w1, Int.toNat_natCast] at u
            exact u
          · exact absurd d u⟩
      · omega
      · rw [a6] at d
        exfalso
        split at d <;> omega
    · rw [p01_n d, if_pos rfl]
      have vb : ∃ v : Nat, sc 64 c = (v : Int) ∧ v < N := by
        rcases hD.2.2.1.1 c hc with ⟨a, ha, a2, a3, a4, a5, a6⟩ | ⟨a, ha, a2, a3, a4, a5, a6⟩ | ⟨j, hj, a2, a3, a4, a5, a6⟩
        · exact absurd a6 d
        · obtain ⟨sa, _, _, _, _, _, _, b7⟩ := hD.2.1 a ha
          rcases b7 with ⟨u, -⟩ | ⟨_, ⟨v, u1, u2⟩, _⟩ | ⟨u, -⟩ | ⟨u, -⟩
          · omega
          · exact ⟨v, by rw [a5]; exact u1, u2⟩
          · omega
          · omega
        · obtain ⟨hd, p0, pc, n0, b1, b2, b3, b4, b5, b6, b7, b8, b9, b10, b11⟩ := hD.1 j hj
          rcases b11 with ⟨u, -⟩ | ⟨u, -⟩ | ⟨_, _, _, u⟩ | ⟨u, -⟩
          · omega
          · omega
          · obtain ⟨st, e, m0, m1, d1, d2, d3, d4, -⟩ := u
            exact ⟨m1 - 1, by rw [a5, d1]; omega, by omega⟩
          · omega
      obtain ⟨v, v1, v2⟩ := vb
      obtain ⟨o1, o2⟩ := w117 v v2
      have e25 : g_25 (c : Int) s ∧ f_25 (c : Int) s = p01 (¬ (x 48 v ≠ 0 ∧ x 48 v ≠ sc 65 c)) := by
        unfold g_25 f_25
        rw [f40, v1, o2, f41]
        refine ⟨⟨g40, o1, fun _ => trivial, fun _ => ⟨g41, trivial⟩⟩, ?_⟩
        by_cases k1 : x 48 v = 0
        · rw [if_pos k1, p01_y (fun u => u.1 k1)]
        · rw [if_neg k1]
          by_cases k2 : x 48 v = sc 65 c
          · rw [if_neg (fun e => e k2), p01_y (fun u => u.2 k2)]
          · rw [if_pos k2, p01_n (fun u => u ⟨k1, k2⟩)]
      rw [gd_pos e25.1, e25.2]
      obtain ⟨s', f1, f2⟩ := fin (x 48 v ≠ 0 ∧ x 48 v ≠ sc 65 c)
      refine ⟨s', f1, f2.iff ?_⟩
      unfold bcW
      rw [v1, Int.toNat_natCast]
      exact ⟨fun u => Or.inr ⟨d, u⟩, fun u => by
        rcases u with ⟨u, _⟩ | u
        · exact absurd u d
        · exact u.2⟩
  obtain ⟨s', e1, e2⟩ := loop_k (k := 9) (s0 := x) (j := j_19_82) (tl := fun z => some z) (M := C) step (fun F s y0 => by rw [j_19_82, y0 61 (by decide), i1 61 (by decide) (by decide), h61, if_pos (by omega)]) (by omega) (fun _ _ => rfl)
  exact ⟨s', by unfold j_19_80; rw [e1], e2⟩
end WCM
