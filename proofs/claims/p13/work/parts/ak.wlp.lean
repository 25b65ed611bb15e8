/-! WIDTHS: all nodes, on both sides. -/
def WIN (sc sm : Sg) (l : Nat) (x y : Sg) : Prop := (∀ b, b ≠ 30 → b ≠ 48 → x b = sc b) ∧ (∀ j, j ≠ 9 → x 30 j = sc 30 j) ∧ (∀ k, l ≤ k → x 48 k = sc 48 k) ∧ AGw sm y ∧ (∀ k, k < l → (y 122 k = -2 ∧ x 48 k = 0) ∨ (1 ≤ y 122 k ∧ y 122 k ≤ 32 ∧ x 48 k = y 122 k)) ∧ (x 30 9 ≠ -1 ↔ 0 ≤ y 84 8)
section WLP
variable {T : TT} {sc sm x y : Sg} {n' S P A N K C w l c q : Nat} {t : Nat → Int}
theorem WSP_c {ω ω' : Nat → Int} {n i : Nat} (ar : AR (sm 116 n) c) (h0 : 0 ≤ sm 116 n ∧ sm 116 n ≤ 21) (h : ∀ j, j < c → ω j = ω' j) : WSP T sc sm n i c ω = WSP T sc sm n i c ω' := by
  obtain ⟨ar1, ar2, ar3, ar4, ar5⟩ := ar
  unfold WSP
  by_cases k0 : sm 116 n = 0
  · rw [if_pos k0, if_pos k0]
  rw [if_neg k0, if_neg k0]
  by_cases k1 : sm 116 n = 1
  · rw [if_pos k1, if_pos k1]
  rw [if_neg k1, if_neg k1]
  by_cases k2 : sm 116 n = 2
  · rw [if_pos k2, if_pos k2, h 0 (by have := ar2 (by omega); omega)]
  rw [if_neg k2, if_neg k2]
  by_cases k3 : sm 116 n = 3
  · rw [if_pos k3, if_pos k3]
    by_cases d : ∀ j, j < c → ω j = T.vl (sm 105 ((sm 98 i).toNat + j)).toNat
    · rw [cite_y d, cite_y (fun j hj => by rw [← h j hj]; exact d j hj)]
    · rw [cite_n d, cite_n (fun u => d (fun j hj => by rw [h j hj]; exact u j hj))]
  rw [if_neg k3, if_neg k3]
  by_cases k4 : sm 116 n = 4 ∨ sm 116 n = 5
  · rw [if_pos k4, if_pos k4, h 0 (by have := ar2 (by omega); omega)]
  rw [if_neg k4, if_neg k4]
  by_cases k6 : sm 116 n = 6
  · rw [if_pos k6, if_pos k6, osum_c c h]
  rw [if_neg k6, if_neg k6]
  by_cases k7 : sm 116 n = 7
  · rw [if_pos k7, if_pos k7, h 0 (by have := ar2 (by omega); omega)]
  rw [if_neg k7, if_neg k7]
  by_cases k8 : sm 116 n = 8 ∨ sm 116 n = 9 ∨ sm 116 n = 13 ∨ sm 116 n = 14
  · rw [if_pos k8, if_pos k8, h 0 (by
      by_cases e : sm 116 n = 8 ∨ sm 116 n = 9
      · have := ar2 (by omega); omega
      · have := ar3 (by omega); omega)]
  rw [if_neg k8, if_neg k8]
  by_cases k21 : sm 116 n = 21
  · have c3 := ar4 k21
    rw [if_pos k21, if_pos k21, h 0 (by omega), h 1 (by omega), h 2 (by omega)]
  have c2 := ar3 (by omega)
  rw [if_neg k21, if_neg k21, h 0 (by omega), h 1 (by omega)]
theorem wnode (h : CKX T sc sm n' t S P A N K C w) (g : GOOD T sc sm S A N w) (n6 : ¬ BD6 T sm S A N) (n7 : ¬ BD7 T sm S A N) (h54 : sc 54 6 = (S : Int)) (hS8 : S ≤ 1171) (hK8 : K ≤ 8192) (hl : l < N) (wi : WIN sc sm l x y) (F G : Nat) :
    ∃ x' y' : Sg, j_19_2 (F + 1) (l : Int) x = j_19_2 F ((l + 1 : Nat) : Int) x' ∧ j_215_2 (G + 1) (l : Int) y = j_215_2 G ((l + 1 : Nat) : Int) y' ∧ WIN sc sm (l + 1) x' y' := by
  obtain ⟨c, q, a1, a2, a3, kk, a5, a6, a7, nv, a9, a10⟩ := h.nkd hl
  obtain ⟨i1, i2, i3, i4, i5, i6⟩ := wi
  obtain ⟨hT, hX, hC, hD, hN, h19, h31, h34, h30, wz, tw, S8, P8, A8, N8⟩ := id h
  have z8 := hT.1
  have hc : CC T x := hC.row (by rw [i1 39 (by decide) (by decide)]) (i1 41 (by decide) (by decide)) (i1 42 (by decide) (by decide)) (i1 44 (by decide) (by decide)) (by rw [i1 31 (by decide) (by decide)]) (i1 1 (by decide) (by decide))
  have kdl : ∀ j, j < c → kd sm q j < l := fun j hj => (kk.at hj).2.1
  have rel : ∀ j, j < c → (y 122 (kd sm q j) = -2 ∧ x 48 (kd sm q j) = 0) ∨ (1 ≤ y 122 (kd sm q j) ∧ y 122 (kd sm q j) ≤ 32 ∧ x 48 (kd sm q j) = y 122 (kd sm q j)) := fun j hj => i5 _ (kdl j hj)
  obtain ⟨q1, q2, q3, q4, q5, q6, q7, q8, q9, q10, q11, q12, q13, q14, q15⟩ := nd117 (s := x) kk.2.2.1 kk.1 kk.2.1 (by rw [i1 46 (by decide) (by decide)])
  have k74 : ∀ z : Sg, j_19_74 (j_19_2 F) (l : Int) z = j_19_2 F ((l + 1 : Nat) : Int) z := fun z => by
    unfold j_19_74
    rw [w32_nat (by omega)]
  have k99 : ∀ z : Sg, j_215_99 (j_215_2 G) (l : Int) z = j_215_2 G ((l + 1 : Nat) : Int) z := fun z => by
    unfold j_215_99
    rw [w32_nat (by omega)]
  -- the reference's question whether the parts are right
  have lp : ∀ (r m H : Nat) (p : Prop), m + r = c → j_215_14 (j_215_2 G) (H + r + 1) (l : Int) (p01 p) (m : Int) y = j_215_49 (j_215_2 G) (l : Int) (p01 (p ∧ ∀ j, m ≤ j → j < c → 0 < y 122 (kd sm q j))) y := by
    intro r
    induction r with
    | zero =>
      intro m H p hm
      rw [j_215_14, gd_pos (by omega), Int.toNat_natCast, i4.1 120 (by decide) (by decide), a1, if_pos (by omega)]
      congr 1
      exact p01_c ⟨fun u => ⟨u, fun j u v => absurd v (by omega)⟩, fun u => u.1⟩
    | succ r ih =>
      intro m H p hm
      rw [show H + (r + 1) + 1 = (H + r + 1) + 1 by omega, j_215_14, gd_pos (by omega), Int.toNat_natCast, i4.1 120 (by decide) (by decide), a1, if_neg (by omega)]
      unfold j_215_41 j_215_42
      rw [w32_nat (by omega)]
      by_cases d : p
      · obtain ⟨k1, k2⟩ := m246 h i4 kk a2 a3 hK8 (j := m) (by omega)
        rw [p01_y d, if_neg (by decide), gd_pos k1, k2]
        have e : ((if y 122 (kd sm q m) ≤ 0 then 0 else 1) : Int) = p01 (0 < y 122 (kd sm q m)) := by
          by_cases u : 0 < y 122 (kd sm q m)
          · rw [if_neg (by omega), p01_y u]
          · rw [if_pos (by omega), p01_n u]
        rw [e, ih (m + 1) H (0 < y 122 (kd sm q m)) (by omega)]
        congr 1
        exact p01_c ⟨fun u => ⟨d, fun j u1 u2 => by
          by_cases e : j = m
          · rw [e]; exact u.1
          · exact u.2 j (by omega) u2⟩, fun u => ⟨u.2 m (Nat.le_refl _) (by omega), fun j u1 u2 => u.2 j (by omega) u2⟩⟩
      · rw [p01_n d, if_pos rfl]
        have e := ih (m + 1) H False (by omega)
        rw [p01_n (fun u => u)] at e
        rw [e]
        congr 1
        exact p01_c ⟨fun u => u.1.elim, fun u => absurd u.1 d⟩
  have r215 : j_215_2 (G + 1) (l : Int) y = j_215_49 (j_215_2 G) (l : Int) (p01 (∀ j, j < c → 0 < y 122 (kd sm q j))) y := by
    rw [j_215_2, i4.2 47 (by decide), hN.2.1, if_neg (by omega)]
    obtain ⟨H, hH⟩ := FU_split (k := c + 1) (by omega)
    have e := lp c 0 H True (by omega)
    rw [show H + c + 1 = FU by omega, p01_y trivial] at e
    have e' : j_215_14 (j_215_2 G) FU (l : Int) 1 0 y = _ := e
    rw [e']
    congr 1
    exact p01_c ⟨fun u j hj => u.2 j (Nat.zero_le _) hj, fun u => ⟨trivial, fun j _ hj => u j hj⟩⟩
  have r19 : j_19_2 (F + 1) (l : Int) x = ((f_22 (l : Int) x).bind fun q3 => (if q3 = 0 then j_19_32 (j_19_2 F) (l : Int) q3 0 x else ((f_23 (l : Int) x).bind fun q6 => j_19_32 (j_19_2 F) (l : Int) q3 q6 x))) := by
    rw [j_19_2, i1 46 (by decide) (by decide), hN.1, if_neg (by omega)]
  rw [r19, r215, c22 kk (by omega) i1, Option.bind_some]
  have u48 : ∀ (v : Int), (∀ b, b ≠ 30 → b ≠ 48 → (ax_u2 x 48 l v) b = sc b) ∧ (∀ j, (ax_u2 x 48 l v) 30 j = x 30 j) ∧ (∀ k, l + 1 ≤ k → (ax_u2 x 48 l v) 48 k = sc 48 k) ∧ (∀ k, k < l → (ax_u2 x 48 l v) 48 k = x 48 k) ∧ (ax_u2 x 48 l v) 48 l = v := fun v => ⟨fun b u z => by rw [u2_row _ _ _ z]; exact i1 b u z, fun j => by rw [u2_row _ _ _ (by decide)], fun k hk => by rw [u2_col _ _ _ (by omega)]; exact i3 k (by omega), fun k hk => u2_col _ _ _ (by omega), u2_same _ _ _ _⟩
  have u122 : ∀ (v : Int), AGw sm (ax_u2 y 122 l v) ∧ (∀ k, k < l → (ax_u2 y 122 l v) 122 k = y 122 k) ∧ (ax_u2 y 122 l v) 122 l = v ∧ (ax_u2 y 122 l v) 84 8 = y 84 8 := fun v => ⟨⟨fun b u z => by rw [u2_row _ _ _ z]; exact i4.1 b u z, fun j u => by rw [u2_row _ _ _ (by decide)]; exact i4.2 j u⟩, fun k hk => u2_col _ _ _ (by omega), u2_same _ _ _ _, by rw [u2_row _ _ _ (by decide)]⟩
  have mkW : ∀ (v v' : Int), (v' = -2 ∧ v = 0) ∨ (1 ≤ v' ∧ v' ≤ 32 ∧ v = v') → WIN sc sm (l + 1) (ax_u2 x 48 l v) (ax_u2 y 122 l v') := fun v v' hv => by
    obtain ⟨p1, p2, p3, p4, p5⟩ := u48 v
    obtain ⟨p6, p7, p8, p9⟩ := u122 v'
    refine ⟨p1, fun j hj => by rw [p2 j]; exact i2 j hj, p3, p6, fun k hk => ?_, by rw [p2 9, p9]; exact i6⟩
    by_cases e : k = l
    · rw [e, p8, p5]; exact hv
    · rw [p7 k (by omega), p4 k (by omega)]; exact i5 k (by omega)
  have e32 : ∀ (f v : Int), j_19_32 (j_19_2 F) (l : Int) f v x = (if f = 0 then j_19_2 F ((l + 1 : Nat) : Int) (ax_u2 x 48 l v) else if ¬ v = 0 then j_19_2 F ((l + 1 : Nat) : Int) (ax_u2 x 48 l v) else gd (g_122 (l : Int) (ax_u2 x 48 l v)) (gd (g_80 (f_122 (l : Int) (ax_u2 x 48 l v)) (ax_u2 x 48 l v)) (gd (g_71 9 (f_80 (f_122 (l : Int) (ax_u2 x 48 l v)) (ax_u2 x 48 l v)) (ax_u2 x 48 l v)) (j_19_2 F ((l + 1 : Nat) : Int) (f_71 9 (f_80 (f_122 (l : Int) (ax_u2 x 48 l v)) (ax_u2 x 48 l v)) (ax_u2 x 48 l v)))))) := fun f v => by
    unfold j_19_32
    rw [gd_pos (q15 v).1, (q15 v).2, Option.bind_some, k74, Option.bind_some, k74]
  have e68 : ∀ (f v : Int), j_215_68 (j_215_2 G) (l : Int) f v (l : Int) y = (if f = 0 then j_215_2 G ((l + 1 : Nat) : Int) (ax_u2 y 122 l v) else if ¬ v = -2 then j_215_2 G ((l + 1 : Nat) : Int) (ax_u2 y 122 l v) else gd (0 ≤ (l : Int) ∧ (l : Int) < 8200) (gd (0 ≤ sm 117 l ∧ sm 117 l < 8200) (j_215_2 G ((l + 1 : Nat) : Int) (f_235 (sm 89 (sm 117 l).toNat) (ax_u2 y 122 l v))))) := fun f v => by
    unfold j_215_68
    rw [gd_pos (by omega), Int.toNat_natCast, k99, gd_pos (by omega), u2_same, i4.1 117 (by decide) (by decide), i4.1 89 (by decide) (by decide), Option.bind_some, k99]
  unfold j_215_49
  by_cases R : ∀ j, j < c → 0 < y 122 (kd sm q j)
  · have Rc : ∀ j, j < c → x 48 (kd sm q j) ≠ 0 := fun j hj => by
      have := R j hj
      rcases rel j hj with u | u
      · omega
      · omega
    have eqw : ∀ j, j < c → x 48 (kd sm q j) = y 122 (kd sm q j) := fun j hj => by
      have := R j hj
      rcases rel j hj with u | u
      · omega
      · exact u.2.2
    have bnd : ∀ j, j < c → 1 ≤ y 122 (kd sm q j) ∧ y 122 (kd sm q j) ≤ 32 := fun j hj => by
      have := R j hj
      rcases rel j hj with u | u
      · omega
      · exact ⟨u.1, u.2.1⟩
    obtain ⟨i, wh, e23, wb⟩ := c23 h g n6 n7 i1 hc h54 hS8 hl a1 a2 (i3 l (Nat.le_refl _)) hK8 (fun j hj => by rw [eqw j hj]; exact bnd j hj)
    have e247 := mwk (i := i) h g i4 hl a1 a2 hK8 bnd wh
    have ew : WSP T sc sm l i c (fun j => x 48 (kd sm q j)) = WSP T sc sm l i c (fun j => y 122 (kd sm q j)) := WSP_c a7 ⟨a9, a10⟩ eqw
    rw [ew] at e23 wb
    obtain ⟨W, hW⟩ : ∃ W : Int, W = WSP T sc sm l i c (fun j => y 122 (kd sm q j)) := ⟨_, rfl⟩
    rw [← hW] at e23 wb e247
    rw [p01_y Rc, if_neg (by decide), e23, Option.bind_some, p01_y R, if_neg (by decide), e247, Option.bind_some, e32, e68, if_neg (show ¬ (1 : Int) = 0 by decide), if_neg (show ¬ (1 : Int) = 0 by decide)]
    rcases wb with wb | wb
    · -- wrong: both tell
      rw [wv_n _ wb, if_neg (fun e => e rfl), if_neg (fun e => e wb), wb]
      obtain ⟨p1, p2, p3, p4, p5⟩ := u48 0
      obtain ⟨p6, p7, p8, p9⟩ := u122 (-2)
      obtain ⟨st, s1, s2⟩ : ∃ st : Nat, sm 117 l = (st : Int) ∧ st < T.z := by
        obtain ⟨_, _, _, _, _, _, _, _, _, _, _, u, _⟩ := hN.2.2.2 l hl
        exact u
      obtain ⟨o1, o2, o3, o4, o5, o6, o7, o8, o9, o10, o11, o12, -⟩ := nd117 (s := ax_u2 x 48 l 0) kk.2.2.1 kk.1 kk.2.1 (by rw [p1 46 (by decide) (by decide)])
      have hc2 : CC T (ax_u2 x 48 l 0) := hC.row (by rw [p1 39 (by decide) (by decide)]) (p1 41 (by decide) (by decide)) (p1 42 (by decide) (by decide)) (p1 44 (by decide) (by decide)) (by rw [p1 31 (by decide) (by decide)]) (p1 1 (by decide) (by decide))
      have e122 : f_122 (l : Int) (ax_u2 x 48 l 0) = (st : Int) := by rw [o12, p1 50 (by decide) (by decide), a6, s1]
      obtain ⟨t1, t2⟩ := c80 (a := st) hc2 hT (by omega)
      have f0 := hT.2.2.2.1 st (by omega)
      obtain ⟨k1, k2⟩ := c71k (s := ax_u2 x 48 l 0) (k := 9) (x := T.fm st) (by decide) (by decide) f0
      have k1' : g_71 9 (T.fm st) (ax_u2 x 48 l 0) := k1
      have k2' : NTk 9 (ax_u2 x 48 l 0) (f_71 9 (T.fm st) (ax_u2 x 48 l 0)) True := k2
      obtain ⟨ii, jj, -, -, d3, -⟩ := hX.2.2.2 st s2
      have fd : FD (ax_u2 y 122 l (-2)) (f_235 (sm 89 st) (ax_u2 y 122 l (-2))) True := m235 (by omega)
      rw [gd_pos o11, e122, gd_pos t2, t1, gd_pos k1', gd_pos (by omega), gd_pos (by omega), s1, Int.toNat_natCast]
      refine ⟨_, _, rfl, rfl, ?_⟩
      have w1 := mkW 0 (-2) (Or.inl ⟨rfl, rfl⟩)
      obtain ⟨j1, j2, j3, j4, j5, j6⟩ := w1
      refine ⟨fun b u z => by rw [k2'.1 b u]; exact j1 b u z, fun j hj => by rw [k2'.2.1 j hj]; exact j2 j hj, fun k hk => by rw [k2'.1 48 (by decide)]; exact j3 k hk, FD.agw j4 fd, fun k hk => by rw [k2'.1 48 (by decide), fd.1 122 (by decide)]; exact j5 k hk, ?_⟩
      rw [k2'.2.2, fd.2.2]
      exact ⟨fun _ => Or.inr trivial, fun _ => Or.inr trivial⟩
    · rw [wv_y _ wb.1, if_pos (by omega), if_pos (by omega)]
      exact ⟨_, _, rfl, rfl, mkW W W (Or.inr ⟨wb.1, wb.2, rfl⟩)⟩
  · have Rc : ¬ ∀ j, j < c → x 48 (kd sm q j) ≠ 0 := fun u => R (fun j hj => by
      have := u j hj
      rcases rel j hj with v | v
      · exact absurd v.2 this
      · omega)
    rw [p01_n Rc, if_pos rfl, p01_n R, if_pos rfl, e32, e68, if_pos rfl, if_pos rfl]
    exact ⟨_, _, rfl, rfl, mkW 0 (-2) (Or.inl ⟨rfl, rfl⟩)⟩
theorem wnodes (h : CKX T sc sm n' t S P A N K C w) (g : GOOD T sc sm S A N w) (n6 : ¬ BD6 T sm S A N) (n7 : ¬ BD7 T sm S A N) (h54 : sc 54 6 = (S : Int)) (hS8 : S ≤ 1171) (hK8 : K ≤ 8192) (h9 : sc 30 9 = -1) (h8 : sm 84 8 = -1) : ∃ x y : Sg, f_19 sc = j_19_80 x ∧ f_215 sm = j_215_105 y ∧ WIN sc sm N x y := by
  obtain ⟨hT, hX, hC, hD, hN, h19, h31, h34, h30, wz, tw, S8, P8, A8, N8⟩ := id h
  have go : ∀ (r l F G : Nat) (x y : Sg), l + r = N → WIN sc sm l x y → ∃ x' y' : Sg, j_19_2 (F + r + 1) (l : Int) x = j_19_80 x' ∧ j_215_2 (G + r + 1) (l : Int) y = j_215_105 y' ∧ WIN sc sm N x' y' := by
    intro r
    induction r with
    | zero =>
      intro l F G x y hl wi
      rw [show l = N by omega] at wi ⊢
      exact ⟨x, y, by rw [j_19_2, wi.1 46 (by decide) (by decide), hN.1, if_pos (by omega)], by rw [j_215_2, wi.2.2.2.1.2 47 (by decide), hN.2.1, if_pos (by omega)], wi⟩
    | succ r ih =>
      intro l F G x y hl wi
      obtain ⟨x1, y1, e1, e2, w1⟩ := wnode h g n6 n7 h54 hS8 hK8 (l := l) (by omega) wi (F + r + 1) (G + r + 1)
      obtain ⟨x', y', e3, e4, w2⟩ := ih (l + 1) F G x1 y1 (by omega) w1
      exact ⟨x', y', by rw [show F + (r + 1) + 1 = (F + r + 1) + 1 by omega, e1, e3], by rw [show G + (r + 1) + 1 = (G + r + 1) + 1 by omega, e2, e4], w2⟩
  obtain ⟨F, hF⟩ := FU_split (k := N + 1) (by omega)
  obtain ⟨x, y, e1, e2, w1⟩ := go N 0 F F sc sm (by omega) ⟨fun _ _ _ => rfl, fun _ _ => rfl, fun _ _ => rfl, ⟨fun _ _ _ => rfl, fun _ _ => rfl⟩, fun k hk => absurd hk (by omega), by rw [h9, h8]; decide⟩
  rw [show F + N + 1 = FU by omega] at e1 e2
  exact ⟨x, y, e1, e2, w1⟩
end WLP
