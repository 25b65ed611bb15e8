/-! WIDTHS: both sides find the same. -/
section WFI
variable {T : TT} {sc sm s s' x y : Sg} {n' S P A N K C w i n c q a : Nat} {t : Nat → Int}
theorem m237w {k : Int} (h6 : s 84 6 = 0) : ∃ s' : Sg, f_237 k s = some s' ∧ (∀ c, c ≠ 84 → s' c = s c) ∧ (∀ j, j ≠ 6 → j ≠ 7 → j ≠ 8 → s' 84 j = s 84 j) ∧ s' 84 8 = -1 ∧ (0 ≤ s 84 8 → s' 84 6 = k) ∧ (¬ 0 ≤ s 84 8 → s' 84 6 = 0) := by
  unfold f_237 j_237_16
  by_cases c : s 84 8 < 0
  · rw [if_pos c]
    exact ⟨_, rfl, fun c x => u2_row _ _ _ x, fun j x y z => u2_col _ _ _ z, u2_same _ _ _ _, fun u => absurd u (by omega), fun _ => by rw [u2_col _ _ _ (by decide)]; exact h6⟩
  · rw [if_neg c, Option.bind_some]
    unfold f_227
    rw [if_pos (by omega)]
    refine ⟨_, rfl, fun c x => by rw [u2_row _ _ _ x, u2_row _ _ _ x, u2_row _ _ _ x], fun j x y z => by rw [u2_col _ _ _ z, u2_col _ _ _ y, u2_col _ _ _ x], u2_same _ _ _ _, fun _ => ?_, fun u => absurd (show 0 ≤ s 84 8 by omega) u⟩
    rw [u2_col _ _ _ (by decide), u2_col _ _ _ (by decide)]
    exact u2_same _ _ _ _
theorem m215c (h : CKX T sc sm n' t S P A N K C w) (g : GOOD T sc sm S A N w) (n6 : ¬ BD6 T sm S A N) (n7 : ¬ BD7 T sm S A N) (wi : WIN sc sm N x y) (h6 : sm 84 6 = 0) : ∃ s' : Sg, j_215_105 y = some s' ∧ (∀ c, c ≠ 84 → s' c = y c) ∧ (∀ j, j ≠ 6 → j ≠ 7 → j ≠ 8 → s' 84 j = sm 84 j) ∧ s' 84 8 = -1 ∧ ((0 ≤ y 84 8 ∨ (∃ i, i < S ∧ bwS T (x 48) sm i) ∨ (∃ a, a < A ∧ bwA T (x 48) sm S a)) → s' 84 6 = 9) ∧ (¬ (0 ≤ y 84 8 ∨ (∃ i, i < S ∧ bwS T (x 48) sm i) ∨ (∃ a, a < A ∧ bwA T (x 48) sm S a)) → s' 84 6 = 0) := by
  have htgt := fun a (ha : a < A) (hk : sm 106 a = 0) => h.tgt g n6 n7 ha hk
  obtain ⟨hT, hX, hC, hD, hN, h19, h31, h34, h30, wz, tw, S8, P8, A8, N8⟩ := id h
  obtain ⟨i1, i2, i3, i4, i5, i6⟩ := wi
  have z8 := hT.1
  have agw : ∀ s, AG y s → AGw sm s := fun s ha => ⟨fun c u v => by rw [ha.1 c u]; exact i4.1 c u v, fun j u => by rw [ha.2 j u]; exact i4.2 j u⟩
  -- statements
  have st1 : ∀ F i s, i < S → AG y s → ∃ s' : Sg, j_215_107 (F + 1) (i : Int) s = j_215_107 F ((i + 1 : Nat) : Int) s' ∧ FD s s' (bwS T (x 48) sm i) := by
    intro F i s hi ha
    have aw := agw s ha
    have r := aw.1
    have k179 : ∀ z : Sg, j_215_179 (j_215_107 F) (i : Int) z = j_215_107 F ((i + 1 : Nat) : Int) z := fun z => by
      unfold j_215_179
      rw [w32_nat (by omega)]
    rw [j_215_107, aw.2 19 (by decide), h19, if_neg (by omega), gd_pos (by omega), Int.toNat_natCast, r 94 (by decide) (by decide)]
    unfold bwS
    by_cases c : sm 94 i = 2
    · obtain ⟨c9, w1, w2, w3, w4, w5, w6⟩ := m97 h g aw hi (by omega)
      have dx : ∃ m st : Nat, sm 100 i = (m : Int) ∧ m < N ∧ sm 101 i = (st : Int) ∧ st < T.z := by
        obtain ⟨hd, p0, pc, n0, b1, b2, b3, b4, b5, b6, b7, b8, b9, b10, b11⟩ := hD.1 i hi
        rcases b11 with ⟨u, -⟩ | ⟨u, -⟩ | ⟨_, _, _, u⟩ | ⟨u, -⟩
        · omega
        · omega
        · obtain ⟨st, e, m0, m1, d1, d2, d3, d4, d5, d6, d7, d8, -⟩ := u
          exact ⟨m1 - 1, st, by omega, by omega, d5, by omega⟩
        · omega
      obtain ⟨m, st, m1, m2, m3, m4⟩ := dx
      rw [if_neg (fun e => e c), gd_pos (by omega), r 100 (by decide) (by decide), m1, gd_pos (by omega), Int.toNat_natCast, ha.1 122 (by decide)]
      rcases i5 m m2 with ⟨k1, k2⟩ | ⟨k1, k2, k3⟩
      · rw [if_pos (by omega), k179]
        exact ⟨s, rfl, (FD.refl s).iff ⟨fun u => u.elim, fun u => u.2.1 k2⟩⟩
      · rw [if_neg (by omega), gd_pos (by omega), gd_pos (by omega), gd_pos (by omega), r 97 (by decide) (by decide), w1, w2, Option.bind_some, w3, Int.toNat_natCast]
        by_cases d : y 122 m = T.vl c9
        · rw [if_pos d, k179]
          exact ⟨s, rfl, (FD.refl s).iff ⟨fun u => u.elim, fun u => u.2.2 (by rw [k3]; exact d)⟩⟩
        · obtain ⟨ii, jj, -, -, d3, -⟩ := hX.2.2.2 st m4
          rw [if_neg d, gd_pos (by omega), r 101 (by decide) (by decide), m3, gd_pos (by omega), Int.toNat_natCast, r 89 (by decide) (by decide), d3, Option.bind_some, k179]
          exact ⟨_, rfl, (m235 (by omega)).iff ⟨fun _ => ⟨c, by rw [k3]; omega, by rw [k3]; exact d⟩, fun _ => trivial⟩⟩
    · rw [if_pos c, k179]
      exact ⟨s, rfl, (FD.refl s).iff ⟨fun u => u.elim, fun u => c u.1⟩⟩
  -- actions
  have st2 : ∀ F a s, a < A → AG y s → ∃ s' : Sg, j_215_187 (F + 1) (a : Int) s = j_215_187 F ((a + 1 : Nat) : Int) s' ∧ FD s s' (bwA T (x 48) sm S a) := by
    intro F a s hA ha
    have aw := agw s ha
    have r := aw.1
    have k249 : ∀ z : Sg, j_215_249 (j_215_187 F) (a : Int) z = j_215_187 F ((a + 1 : Nat) : Int) z := fun z => by
      unfold j_215_249
      rw [w32_nat (by omega)]
    rw [j_215_187, aw.2 34 (by decide), h34, if_neg (by omega), gd_pos (by omega), Int.toNat_natCast, r 106 (by decide) (by decide)]
    unfold bwA
    by_cases c1 : sm 106 a = 1
    · obtain ⟨sa, _, _, _, _, _, _, b7⟩ := hD.2.1 a hA
      have : ∃ v lx : Nat, sm 110 a = (v : Int) ∧ v < N ∧ sm 111 a = (lx : Int) ∧ lx < T.z := by
        rcases b7 with ⟨u, -⟩ | ⟨_, ⟨v, u1, u2⟩, lx, u3, u4⟩ | ⟨u, -⟩ | ⟨u, -⟩
        · omega
        · exact ⟨v, lx, u1, u2, u3, u4⟩
        · omega
        · omega
      obtain ⟨v, lx, v1, v2, v3, v4⟩ := this
      have e235 : ∀ z : Sg, AG y z → j_215_235 (j_215_187 F) (a : Int) z = j_215_187 F ((a + 1 : Nat) : Int) z := fun z hz => by
        unfold j_215_235
        rw [gd_pos (by omega), Int.toNat_natCast, (agw z hz).1 106 (by decide) (by decide), if_pos (by omega), k249]
      rw [if_neg (fun e => e c1), gd_pos (by omega), r 110 (by decide) (by decide), v1, gd_pos (by omega), Int.toNat_natCast, ha.1 122 (by decide)]
      rcases i5 v v2 with ⟨k1, k2⟩ | ⟨k1, k2, k3⟩
      · rw [if_pos (by omega), e235 s ha]
        exact ⟨s, rfl, (FD.refl s).iff ⟨fun u => u.elim, fun u => by
          rcases u with u | u
          · exact u.2.1 k2
          · omega⟩⟩
      · by_cases d : y 122 v ≤ 1
        · rw [if_pos d, e235 s ha]
          exact ⟨s, rfl, (FD.refl s).iff ⟨fun u => u.elim, fun u => by
            rcases u with u | u
            · exact u.2.2 (by rw [k3]; omega)
            · omega⟩⟩
        · obtain ⟨ii, jj, -, -, d3, -⟩ := hX.2.2.2 lx v4
          have fd : FD s (f_235 ((ii : Nat) : Int) s) True := m235 (by omega)
          rw [if_neg d, gd_pos (by omega), r 111 (by decide) (by decide), v3, gd_pos (by omega), Int.toNat_natCast, r 89 (by decide) (by decide), d3, Option.bind_some, e235 _ (ha.fd fd)]
          exact ⟨_, rfl, fd.iff ⟨fun _ => Or.inl ⟨c1, by rw [k3]; omega, by rw [k3]; omega⟩, fun _ => trivial⟩⟩
    · rw [if_pos c1]
      unfold j_215_235
      rw [gd_pos (by omega), Int.toNat_natCast, r 106 (by decide) (by decide)]
      by_cases c0 : sm 106 a = 0
      · obtain ⟨j, xx, v, t1, t2, t3, so, e36, ft, t4, t5, t6⟩ := htgt a hA c0
        have i8 := so.1
        have h94 : sm 94 j < 3 := by
          rcases ft with u | u | u
          · omega
          · omega
          · omega
        obtain ⟨c9, w1, w2, w3, w4, w5, w6⟩ := m97 h g aw so.1 h94
        obtain ⟨ii, jj, d3, -⟩ := hX.nm t2 t3
        have fd : FD s (f_235 ((ii : Nat) : Int) s) True := m235 (by omega)
        have e64 : ∃ s' : Sg, j_248_64 (a : Int) (j : Int) s = some s' ∧ FD s s' (x 48 v ≠ 0 ∧ x 48 v ≠ T.vl c9) := by
          unfold j_248_64
          rw [gd_pos (by omega), Int.toNat_natCast, Int.toNat_natCast, r 110 (by decide) (by decide), t5, gd_pos (by omega), Int.toNat_natCast, ha.1 122 (by decide)]
          rcases i5 v t6 with ⟨k1, k2⟩ | ⟨k1, k2, k3⟩
          · rw [if_pos (by omega)]
            exact ⟨s, rfl, (FD.refl s).iff ⟨fun u => u.elim, fun u => u.1 k2⟩⟩
          · rw [if_neg (by omega), gd_pos (by omega), gd_pos (by omega), gd_pos (by omega), r 97 (by decide) (by decide), w1, w2, Option.bind_some, w3]
            by_cases d : y 122 v = T.vl c9
            · rw [if_pos d]
              exact ⟨s, rfl, (FD.refl s).iff ⟨fun u => u.elim, fun u => u.2 (by rw [k3]; exact d)⟩⟩
            · rw [if_neg d, gd_pos (by omega), r 107 (by decide) (by decide), t1, gd_pos (by omega), Int.toNat_natCast, r 89 (by decide) (by decide), d3, Option.bind_some]
              exact ⟨_, rfl, fd.iff ⟨fun _ => ⟨by rw [k3]; omega, by rw [k3]; exact d⟩, fun _ => trivial⟩⟩
        have e248 : ∃ s' : Sg, f_248 (a : Int) s = some s' ∧ FD s s' (TWR (x 48) (iw T sm j) (T.vl c9) (sm 109 a) v) := by
          unfold f_248
          rw [gd_pos (by omega), Int.toNat_natCast, r 107 (by decide) (by decide), t1, m238w h aw t2 t3 so, Option.bind_some, gd_pos (by omega), r 109 (by decide) (by decide)]
          rcases t4 with t4 | ⟨m, t4, t7⟩
          · rw [if_pos (by omega)]
            obtain ⟨s', f1, f2⟩ := e64
            refine ⟨s', f1, f2.iff ?_⟩
            unfold TWR
            exact ⟨fun u => Or.inr ⟨Or.inl (by omega), u⟩, fun u => by
              rcases u with u | u
              · omega
              · exact u.2⟩
          · have hf : sm 94 j = 1 ∨ sm 94 j = 0 ∧ 0 ≤ sm 96 j := by
              rw [if_neg (by omega)] at ft
              rcases ft with ⟨u, _⟩ | u | ⟨u, _⟩
              · exact absurd u (by decide)
              · exact u.2
              · exact absurd u (by decide)
            obtain ⟨p1, -⟩ := m256 h g aw so.1 hf
            rw [if_neg (by omega), gd_pos (by omega), t4, gd_pos (by omega), Int.toNat_natCast, ha.1 122 (by decide)]
            unfold TWR
            rw [Int.toNat_natCast m]
            rcases i5 m t7 with ⟨k1, k2⟩ | ⟨k1, k2, k3⟩
            · rw [if_neg (fun e => e k1)]
              exact ⟨s, rfl, (FD.refl s).iff ⟨fun u => u.elim, fun u => by
                rcases u with u | u
                · exact u.2.1 k2
                · rcases u.1 with u1 | u1
                  · omega
                  · exact u1.1 k2⟩⟩
            · rw [if_pos (by omega), p1, Option.bind_some]
              by_cases d : y 122 m = iw T sm j
              · rw [if_pos d]
                obtain ⟨s', f1, f2⟩ := e64
                refine ⟨s', f1, f2.iff ⟨fun u => Or.inr ⟨Or.inr ⟨by rw [k3]; omega, by rw [k3]; exact d⟩, u⟩, fun u => ?_⟩⟩
                rcases u with u | u
                · exact absurd (by rw [k3]; exact d) u.2.2
                · exact u.2
              · rw [if_neg d, gd_pos (by omega), gd_pos (by omega), r 89 (by decide) (by decide), Int.toNat_natCast xx, d3, Option.bind_some]
                exact ⟨_, rfl, fd.iff ⟨fun _ => Or.inl ⟨by omega, by rw [k3]; omega, by rw [k3]; exact d⟩, fun _ => trivial⟩⟩
        obtain ⟨s', f1, f2⟩ := e248
        rw [if_neg (fun e => e c0), f1, Option.bind_some, k249]
        refine ⟨s', rfl, f2.iff ⟨fun u => Or.inr ⟨c0, j, by rw [t1, Int.toNat_natCast]; exact so, by rw [w1, t5, Int.toNat_natCast, Int.toNat_natCast]; exact u⟩, fun u => ?_⟩⟩
        rcases u with u | ⟨_, j', so', u⟩
        · omega
        · rw [t1, Int.toNat_natCast] at so'
          rw [← so.uniq so', w1, t5, Int.toNat_natCast, Int.toNat_natCast] at u
          exact u
      · rw [if_pos c0, k249]
        exact ⟨s, rfl, (FD.refl s).iff ⟨fun u => u.elim, fun u => by
          rcases u with u | u
          · exact c1 u.1
          · exact c0 u.1⟩⟩
  obtain ⟨s2, e2, f2, a2⟩ := loop_fu (j := j_215_107) (tl := j_215_185) (s0 := y) (M := S) st1 (fun F s ha => by rw [j_215_107, (agw s ha).2 19 (by decide), h19, if_pos (by omega)]) (by omega) (AG.refl y)
  obtain ⟨s3, e3, f3, a3⟩ := loop_fu (j := j_215_187) (tl := j_215_255) (s0 := y) (M := A) st2 (fun F s ha => by rw [j_215_187, (agw s ha).2 34 (by decide), h34, if_pos (by omega)]) (by omega) a2
  have f23 := f2.trans f3
  obtain ⟨s6, e6, t1, t2, t3, t4, t5⟩ := m237w (s := s3) (k := 9) (by rw [a3.2 6 (by decide), i4.2 6 (by decide)]; exact h6)
  refine ⟨s6, ?_, fun c u => by rw [t1 c u, a3.1 c u], fun j u v z => by rw [t2 j u v z, a3.2 j z, i4.2 j z], t3, fun u => t4 (f23.2.2.mpr u), fun u => t5 (fun z => u (f23.2.2.mp z))⟩
  show j_215_107 FU 0 y = _
  rw [e2]
  show j_215_187 FU 0 s2 = _
  rw [e3]
  unfold j_215_255
  rw [e6, Option.bind_some]
theorem wid_sim (h : CKX T sc sm n' t S P A N K C w) (g : GOOD T sc sm S A N w) (n6 : ¬ BD6 T sm S A N) (n7 : ¬ BD7 T sm S A N) (h54 : sc 54 6 = (S : Int)) (hS8 : S ≤ 1171) (h61 : sc 61 4 = (C : Int)) (hC8 : C ≤ 2049) (hK8 : K ≤ 8192) (h9 : sc 30 9 = -1) (h8 : sm 84 8 = -1) (h6 : sm 84 6 = 0) :
    ∃ x y : Sg, f_19 sc = some x ∧ f_215 sm = some y ∧ (∀ b, b ≠ 30 → b ≠ 48 → x b = sc b) ∧ (∀ j, j ≠ 9 → x 30 j = sc 30 j) ∧ (∀ b, b ≠ 84 → b ≠ 122 → y b = sm b) ∧ (∀ j, j ≠ 6 → j ≠ 7 → j ≠ 8 → y 84 j = sm 84 j) ∧ y 84 8 = -1 ∧ (x 30 9 ≠ -1 ↔ y 84 6 = 9) ∧ (x 30 9 = -1 → y 84 6 = 0) ∧ (∀ k, k < N → (y 122 k = -2 ∧ x 48 k = 0) ∨ (1 ≤ y 122 k ∧ y 122 k ≤ 32 ∧ x 48 k = y 122 k)) := by
  obtain ⟨x, y, e1, e2, wi⟩ := wnodes h g n6 n7 h54 hS8 hK8 h9 h8
  obtain ⟨x', e3, n1, n2, n3⟩ := c19c h g n6 n7 h54 hS8 h61 hC8 wi
  obtain ⟨y', e4, m1, m2, m3, m4, m5⟩ := m215c h g n6 n7 wi h6
  obtain ⟨i1, i2, i3, i4, i5, i6⟩ := wi
  have ci := cl_iff h g (W := x 48)
  have key : x' 30 9 ≠ -1 ↔ (0 ≤ y 84 8 ∨ (∃ i, i < S ∧ bwS T (x 48) sm i) ∨ (∃ a, a < A ∧ bwA T (x 48) sm S a)) := by rw [n3, i6, ci]
  refine ⟨x', y', by rw [e1, e3], by rw [e2, e4], fun b u v => by rw [n1 b u]; exact i1 b u v, fun j u => by rw [n2 j u]; exact i2 j u, fun b u v => by rw [m1 b u]; exact i4.1 b u v, m2, m3, ⟨fun u => m4 (key.mp u), fun u => ?_⟩, fun u => m5 (fun z => key.mpr z u), fun k hk => by rw [n1 48 (by decide), m1 122 (by decide)]; exact i5 k hk⟩
  apply Decidable.byContradiction
  intro hn
  have := m5 (fun z => hn (key.mpr z))
  omega
end WFI
