/-! CALLS: end, read, print, out, again. -/
section CAL
variable {s s' sc sm x y : Sg} {T : TT} {n : Nat} {t : Nat → Int} {a : Int}
theorem f207 (x lo hi : Int) (s : Sg) : f_207 x lo hi s = if lo ≤ x ∧ x ≤ hi then 1 else 0 := by
  unfold f_207
  by_cases c1 : x < lo
  · rw [if_pos (by rw [cmp_lt]; exact c1), if_neg (by omega)]
  · rw [if_neg (by rw [cmp_lt]; exact c1)]
    by_cases c2 : hi < x
    · rw [if_pos (by rw [cmp_gt]; exact c2), if_neg (by omega)]
    · rw [if_neg (by rw [cmp_gt]; exact c2), if_pos (by omega)]
/-- END -/
theorem end_ (g : GIV s) : RES s (f_281 a s) (f_195 a) GIV True := by
  obtain ⟨g1, ⟨n, t1, t2, t3, t4⟩, g3, g4, g5, g6⟩ := id g
  by_cases c : 0 ≤ a ∧ a ≤ 16
  · by_cases d : 16 ≤ n
    · obtain ⟨m, hm⟩ : ∃ m : Nat, (n : Int) - (16 - a) = (m : Int) := ⟨((n : Int) - (16 - a)).toNat, by omega⟩
      have w : ax_w32 ((n : Int) - ax_w32 (16 - a)) = (m : Int) := by rw [w32_id (z := 16 - a) (by omega) (by omega), w32_id (by omega) (by omega)]; exact hm
      refine ⟨0, (m : Int), ax_u2 (ax_u2 s 27 1 (m : Int)) 136 (0 : Int).toNat (m : Int), ax_u2 (ax_u2 (ax_u2 (ax_u2 s 27 1 (m : Int)) 136 (0 : Int).toNat (m : Int)) 84 0 0) 84 1 (m : Int), ?_, ?_, ?_, fun _ => ⟨?_, fun _ => ?_⟩, by rw [u2_row _ _ _ (by decide), u2_row _ _ _ (by decide)]⟩
      · unfold f_281 f_3
        rw [if_neg (by omega), if_pos c.2, t1, if_pos (by omega), w]
        rfl
      · unfold f_195
        rw [f207, if_pos c, if_pos (by decide), u2_row _ _ _ (show (84 : Nat) ≠ 136 by decide), u2_row _ _ _ (show (84 : Nat) ≠ 27 by decide), t3, if_pos (by omega), w]
      · have r : ∀ q, q ≠ 27 → q ≠ 84 → q ≠ 136 → ax_u2 (ax_u2 (ax_u2 (ax_u2 s 27 1 (m : Int)) 136 (0 : Int).toNat (m : Int)) 84 0 0) 84 1 (m : Int) q = s q := fun q u1 u2 u3 => by rw [u2_row _ _ _ u2, u2_row _ _ _ u2, u2_row _ _ _ u3, u2_row _ _ _ u1]
        have r84 : ∀ j, j ≠ 0 → j ≠ 1 → ax_u2 (ax_u2 (ax_u2 (ax_u2 s 27 1 (m : Int)) 136 (0 : Int).toNat (m : Int)) 84 0 0) 84 1 (m : Int) 84 j = s 84 j := fun j u v => by rw [u2_col _ _ _ v, u2_col _ _ _ u, u2_row _ _ _ (by decide), u2_row _ _ _ (by decide)]
        have r27 : ∀ j, ax_u2 (ax_u2 (ax_u2 (ax_u2 s 27 1 (m : Int)) 136 (0 : Int).toNat (m : Int)) 84 0 0) 84 1 (m : Int) 27 j = if j = 1 then (m : Int) else s 27 j := fun j => by rw [u2_row _ _ _ (by decide), u2_row _ _ _ (by decide), u2_row _ _ _ (by decide), u2_at]
        refine ⟨g1.cg (fun q u => r q (by omega) (by omega) (by omega)), ⟨m, by rw [r27, if_pos rfl], by omega, by rw [u2_at, if_pos rfl], fun i hi => ?_⟩, g3.cg (by rw [r 82 (by decide) (by decide) (by decide)]) (r 83 (by decide) (by decide) (by decide)) (r84 9 (by decide) (by decide)) (r 87 (by decide) (by decide) (by decide)), g4.cg (by rw [r27, if_neg (by decide)]) (r84 5 (by decide) (by decide)) (fun q u => r q (by omega) (by omega) (by omega)) (fun q u => r q (by omega) (by omega) (by omega)) (fun j u1 u2 _ _ => r84 j u1 u2), ?_, ?_⟩
        · rw [r 28 (by decide) (by decide) (by decide), r 85 (by decide) (by decide) (by decide)]
          exact t4 i (by omega)
        · unfold RB at *
          rw [r 74 (by decide) (by decide) (by decide)]; exact g5
        · unfold RM at *
          rw [r84 72 (by decide) (by decide)]; exact g6
      · rw [u2_col _ _ _ (by decide), u2_at, if_pos rfl]
      · rw [u2_row _ _ _ (by decide), u2_row _ _ _ (by decide), show (0 : Int).toNat = 0 from rfl, u2_at, if_pos rfl]
    · refine ⟨2, 0, s, ax_u2 (ax_u2 s 84 0 0) 84 0 2, ?_, ?_, ((QF.a84 s 0).trans (QF.a84 _ 2)).gi g, fun _ => ⟨by rw [u2_at, if_pos rfl], fun u => absurd u (by decide)⟩, rfl⟩
      · unfold f_281 f_3
        rw [if_neg (by omega), if_pos c.2, t1, if_neg (by omega)]
        rfl
      · unfold f_195
        rw [f207, if_pos c, if_pos (by decide), t3, if_neg (by omega)]
        rfl
  · refine ⟨1, 0, s, ax_u2 (ax_u2 s 84 0 0) 84 0 1, ?_, ?_, ((QF.a84 s 0).trans (QF.a84 _ 1)).gi g, fun _ => ⟨by rw [u2_at, if_pos rfl], fun u => absurd u (by decide)⟩, rfl⟩
    · unfold f_281 f_3
      by_cases d : a < 0
      · rw [if_pos d]
        rfl
      · rw [if_neg d, if_neg (by omega)]
        rfl
    · unfold f_195
      rw [f207, if_neg c, if_neg (by decide)]
      rfl
/-- READ -/
theorem read_ (g : GIV s) : RES s (f_282 s) f_196 GIV True := by
  obtain ⟨g1, ⟨n, t1, t2, t3, t4⟩, ⟨L, l1, l2, l3, l4⟩, -, -, -⟩ := id g
  have key : ∀ s1 : Sg, (∀ c, c = 84 ∨ c = 85 → s1 c = s c) → _ := fun s1 h1 => read_sim (sc := s) (sm := s1) g1 t1 t2 (by rw [h1 84 (by decide)]; exact t3) (by rw [h1 85 (by decide)]; exact t4)
  rcases key s (fun _ _ => rfl) with ⟨-, -, -, -, -, -, x, -, S, -, -, -, -, -, e1, -, -, -, -, -, -, -, -, fc, -⟩ | ⟨x, -, e1, -, -, -, fc, -⟩
  · -- nothing wrong
    obtain ⟨s1, hs1⟩ : ∃ z : Sg, z = ax_u2 (ax_u2 (ax_u2 x 27 1 0) 27 2 1) 136 (0 : Int).toNat (S : Int) := ⟨_, rfl⟩
    have q1 : ∀ c, c ≠ 27 → c ≠ 136 → s1 c = x c := fun c u v => by rw [hs1, u2_row _ _ _ v, u2_row _ _ _ u, u2_row _ _ _ u]
    rcases key s1 (fun c u => by rw [q1 c (by omega) (by omega), fc.1 c (by omega)]) with ⟨T, t, sc0, sm0, sc1, sm1, x', y, S', P, A, N, K, C, e2, e3, b1, b2, b3, b4, b5, b6, b7, fc', fm, b8, -⟩ | ⟨x', y', e2, e3, e4, e5, e6, e7⟩
    · rw [e1] at e2
      have ee := Sum.inl.inj (Option.some.inj e2)
      have eS : S' = S := by
        have := congrArg Prod.fst ee
        simp only at this
        omega
      have eX : ax_u2 (ax_u2 x 27 1 0) 27 2 1 = ax_u2 (ax_u2 x' 27 1 0) 27 2 1 := congrArg Prod.snd ee
      have q2 : ∀ c, c ≠ 27 → c ≠ 136 → s1 c = x' c := fun c u v => by rw [hs1, u2_row _ _ _ v, eX, u2_row _ _ _ u, u2_row _ _ _ u]
      obtain ⟨m1, m2, m3, m4, m5, m6⟩ := fm
      have w : ∀ c, c < 84 → c ≠ 27 → ax_u2 y 84 5 1 c = x' c := fun c u v => by rw [u2_row _ _ _ (by omega), m1 c (Or.inl u), q2 c v (by omega)]
      have wo : ∀ c, c = 82 ∨ c = 83 ∨ c = 85 ∨ c = 87 → ax_u2 y 84 5 1 c = s c := fun c u => by rw [u2_row _ _ _ (by omega), m1 c (by omega), q2 c (by omega) (by omega), fc'.1 c (by omega)]
      have w84 : ∀ j, j ≠ 5 → ax_u2 y 84 5 1 84 j = y 84 j := fun j u => u2_col _ _ _ u
      have w27 : ∀ j, ax_u2 y 84 5 1 27 j = s1 27 j := fun j => by rw [u2_row _ _ _ (by decide), m1 27 (by decide)]
      have v27 : s1 27 1 = 0 ∧ s1 27 2 = 1 := by rw [hs1]; simp [ax_u2]
      have p9 : y 84 9 = s 84 9 := by rw [m5 9 (by decide), q2 84 (by decide) (by decide), fc'.1 84 (by decide)]
      refine ⟨0, (S : Int), s1, ax_u2 y 84 5 1, ?_, by rw [← eS]; exact e3, ?_, fun _ => ⟨by rw [w84 0 (by decide)]; exact m2, fun _ => ?_⟩, by rw [q2 0 (by decide) (by decide), fc'.1 0 (by decide)]⟩
      · unfold f_282
        rw [e1, hs1]
        rfl
      · refine ⟨b7.cg (fun c u => w c (by omega) (by omega)), ⟨0, by rw [w27]; exact v27.1, by omega, by rw [w84 1 (by decide)]; exact m3, fun i hi => absurd hi (by omega)⟩, ⟨L, by rw [wo 82 (by decide)]; exact l1, l2, by rw [w84 9 (by decide), p9]; exact l3, by rw [wo 83 (by decide), wo 87 (by decide)]; exact l4⟩, Or.inr ⟨by rw [w27]; exact v27.2, by rw [u2_at, if_pos rfl], T, t, n, sc0, sm0, sc1, sm1, x', y, S', P, A, N, K, C, b1, b2, b3, b8, b4, b5, b6, fun c u => w c (by omega) (by omega), fun c u => u2_row _ _ _ (by omega), fun j _ _ u _ => w84 j u⟩, ?_, ?_⟩
        · unfold RB
          rw [w 74 (by decide) (by decide)]
          exact fc'.2
        · unfold RM
          rw [w84 72 (by decide)]
          exact m6
      · rw [u2_row _ _ _ (by decide), m1 136 (by decide), hs1, show (0 : Int).toNat = 0 from rfl, u2_at, if_pos rfl]
    · rw [e1] at e2
      cases e2
  · -- a fault
    obtain ⟨s1, hs1⟩ : ∃ z : Sg, z = f_180 (f_113 (f_74 (ax_u2 (ax_u2 x 27 1 0) 27 2 0))) := ⟨_, rfl⟩
    have fr : ∀ (x : Sg) (c : Nat), c ≠ 27 → c ≠ 39 → c ≠ 46 → c ≠ 54 → f_180 (f_113 (f_74 (ax_u2 (ax_u2 x 27 1 0) 27 2 0))) c = x c := fun x c u1 u2 u3 u4 => by
      unfold f_180 f_113 f_74
      rw [u2_row _ _ _ u4, u2_row _ _ _ u4, u2_row _ _ _ u3, u2_row _ _ _ u2, u2_row _ _ _ u2, u2_row _ _ _ u2, u2_row _ _ _ u1, u2_row _ _ _ u1]
    rcases key s1 (fun c u => by rw [hs1, fr x c (by omega) (by omega) (by omega) (by omega), fc.1 c (by omega)]) with ⟨z1, z2, z3, z4, z5, z6, x', z7, z8, z9, z10, z11, z12, z13, e2, z14⟩ | ⟨x', y, e2, e3, b6, b7, fc', fm⟩
    · rw [e1] at e2
      cases e2
    · rw [e1] at e2
      have eX : f_180 (f_113 (f_74 (ax_u2 (ax_u2 x 27 1 0) 27 2 0))) = f_180 (f_113 (f_74 (ax_u2 (ax_u2 x' 27 1 0) 27 2 0))) := congrArg Prod.snd (Sum.inr.inj (Option.some.inj e2))
      have q2 : ∀ c, c ≠ 27 → c ≠ 39 → c ≠ 46 → c ≠ 54 → s1 c = x' c := fun c u1 u2 u3 u4 => by rw [hs1, eX, fr x' c u1 u2 u3 u4]
      obtain ⟨m1, m2, m3, m4, m5, m6⟩ := fm
      have w : ∀ c, c < 84 → ax_u2 y 84 0 1 c = s1 c := fun c u => by rw [u2_row _ _ _ (by omega), m1 c (Or.inl u)]
      have wo : ∀ c, c = 82 ∨ c = 83 ∨ c = 85 ∨ c = 87 → ax_u2 y 84 0 1 c = s c := fun c u => by rw [u2_row _ _ _ (by omega), m1 c (by omega), q2 c (by omega) (by omega) (by omega) (by omega), fc'.1 c (by omega)]
      have w84 : ∀ j, j ≠ 0 → ax_u2 y 84 0 1 84 j = y 84 j := fun j u => u2_col _ _ _ u
      have v27 : s1 27 1 = 0 ∧ s1 27 2 = 0 ∧ s1 54 6 = 0 ∧ s1 46 7 = 0 ∧ s1 39 9 = 0 := by rw [hs1]; simp [f_180, f_113, f_74, ax_u2]
      have p9 : y 84 9 = s 84 9 := by rw [m5 9 (by decide), q2 84 (by decide) (by decide) (by decide) (by decide), fc'.1 84 (by decide)]
      refine ⟨1, 0, s1, ax_u2 y 84 0 1, ?_, e3, ?_, fun _ => ⟨by rw [u2_at, if_pos rfl], fun u => absurd u (by decide)⟩, by rw [q2 0 (by decide) (by decide) (by decide) (by decide), fc'.1 0 (by decide)]⟩
      · unfold f_282
        rw [e1, hs1]
        rfl
      · refine ⟨b7.cg (fun c u => by rw [w c (by omega), q2 c (by omega) (by omega) (by omega) (by omega)]), ⟨0, by rw [w 27 (by decide)]; exact v27.1, by omega, by rw [w84 1 (by decide)]; exact m3, fun i hi => absurd hi (by omega)⟩, ⟨L, by rw [wo 82 (by decide)]; exact l1, l2, by rw [w84 9 (by decide), p9]; exact l3, by rw [wo 83 (by decide), wo 87 (by decide)]; exact l4⟩, Or.inl ⟨by rw [w 27 (by decide)]; exact v27.2.1, by rw [w84 5 (by decide)]; exact m4, by rw [w 54 (by decide)]; exact v27.2.2.1, by rw [w 46 (by decide)]; exact v27.2.2.2.1, by rw [w 39 (by decide)]; exact v27.2.2.2.2⟩, ?_, ?_⟩
        · unfold RB
          rw [w 74 (by decide), q2 74 (by decide) (by decide) (by decide) (by decide)]
          exact fc'.2
        · unfold RM
          rw [w84 72 (by decide)]
          exact m6
/-- what was read stands there still -/
theorem TX.cg (h : TX T sc sm n t) (h1 : ∀ c, c = 31 ∨ c = 32 ∨ c = 33 ∨ c = 34 ∨ c = 35 ∨ c = 39 ∨ c = 40 ∨ c = 43 → x c = sc c) (h2 : ∀ c, c = 86 ∨ c = 89 ∨ c = 90 → y c = sm c) (h3 : y 84 3 = sm 84 3) : TX T x y n t := by
  unfold TX CT MT NI LXn at *
  rw [h1 31 (by decide), h1 32 (by decide), h1 33 (by decide), h1 34 (by decide), h1 35 (by decide), h1 39 (by decide), h1 40 (by decide), h1 43 (by decide), h2 86 (by decide), h2 89 (by decide), h2 90 (by decide), h3]
  exact h
/-- what a state holds of a text that was read: rows are those of the checks' end -/
theorem kn_rows {sc1 sm1 : Sg} {N : Nat} (cho : CHO sc1 sm1 x y N) (a8 : ∀ c, c = 1 ∨ 30 ≤ c ∧ c ≤ 81 → s c = x c) (a9 : ∀ c, c = 86 ∨ 88 ≤ c ∧ c ≤ 135 → s c = y c) (a10 : ∀ j, j ≠ 0 → j ≠ 1 → j ≠ 5 → j ≠ 9 → s 84 j = y 84 j) :
    (∀ c, c = 1 ∨ 31 ≤ c ∧ c < 74 → c ≠ 48 → s c = sc1 c) ∧ (∀ c, c = 86 ∨ 88 ≤ c ∧ c < 133 → c ≠ 122 → s c = sm1 c) ∧ (∀ j, j ≠ 0 → j ≠ 1 → j ≠ 5 → j ≠ 6 → j ≠ 7 → j ≠ 8 → j ≠ 9 → j ≠ 72 → s 84 j = sm1 84 j) := by
  obtain ⟨o1, o2, o3, o4, -⟩ := cho
  exact ⟨fun c u v => by rw [a8 c (by omega), o1 c (by omega) v (by omega)], fun c u v => by rw [a9 c (by omega), o3 c (by omega) v (by omega)], fun j u0 u1 u5 u6 u7 u8 u9 u72 => by rw [a10 j u0 u1 u5 u9, o4 j u6 u7 u8 u72]⟩
theorem KN.pri (h : KN s) : ∃ (T : TT) (n : Nat) (t : Nat → Int), PRI T s s n t := by
  obtain ⟨T, t, n, sc0, sm0, sc1, sm1, x, y, S, P, A, N, K, C, a1, a2, a3, a4, a5, a6, a7, a8, a9, a10⟩ := h
  obtain ⟨r1, r2, r3⟩ := kn_rows a6 a8 a9 a10
  obtain ⟨hB, h70, h19, h7, h37, hnc, htl, hdp⟩ := a5
  obtain ⟨e1, e2, e3, e4, e5, e6, e7, e8, e9, e10, e11, e12, e13, e14, e15, e16, e17, e18, e19, e20, e21, e22, e23, e24, e25, e26, e27, e28, e29, e30, e31⟩ := hB
  have tx1 := a3.sf e15 e16
  have z3 : 3 ≤ T.z := e27
  refine ⟨T, n, t, a1, a2, fun k hk => ?_, tx1.cg (fun c u => r1 c (by omega) (by omega)) (fun c u => r2 c (by omega) (by omega)) (r3 3 (by decide) (by decide) (by decide) (by decide) (by decide) (by decide) (by decide) (by decide)), e1.row (by rw [r1 39 (by decide) (by decide)]) (r1 41 (by decide) (by decide)) (r1 42 (by decide) (by decide)) (r1 44 (by decide) (by decide)) (by rw [r1 31 (by decide) (by decide)]) (r1 1 (by decide) (by decide)), ?_, fun k hk => ?_, fun k u v => e19 k u v, fun k hk => e20 k hk, by omega, htl, hdp⟩
  · rw [r1 43 (by decide) (by decide), e15.1 43 (by decide)]
    exact a4 k hk
  · unfold MC at *
    rw [r3 11 (by decide) (by decide) (by decide) (by decide) (by decide) (by decide) (by decide) (by decide), r2 88 (by decide) (by decide)]
    exact e2
  · have := e9 k hk
    unfold LF at *
    rw [r1 45 (by decide) (by decide), r2 91 (by decide) (by decide), r2 92 (by decide) (by decide), r2 93 (by decide) (by decide)]
    exact this
theorem PRI.cg (h : PRI T s s n t) (h1 : ∀ c, c = 86 ∨ 88 ≤ c ∧ c ≤ 93 → y c = s c) (h3 : ∀ j, j = 3 ∨ j = 11 → y 84 j = s 84 j) : PRI T s y n t := by
  obtain ⟨a1, a2, a3, a4, a5, a6, a7, a8⟩ := h
  refine ⟨a1, a2, a3, a4.cg (fun _ _ => rfl) (fun c u => h1 c (by omega)) (h3 3 (by decide)), a5, ?_, fun k hk => ?_, a8⟩
  · unfold MC at *
    rw [h3 11 (by decide), h1 88 (by decide)]
    exact a6
  · have := a7 k hk
    unfold LF at *
    rw [h1 91 (by decide), h1 92 (by decide), h1 93 (by decide)]
    exact this
theorem byl_getD : ∀ (B : List Int) (i : Nat), i < B.length → byl B → 0 ≤ B.getD i 0 ∧ B.getD i 0 < 256 := by
  intro B
  induction B with
  | nil => intro i hi _; exact absurd hi (by simp)
  | cons b B ih =>
    intro i hi h
    rw [List.length_cons] at hi
    cases i with
    | zero => exact h b List.mem_cons_self
    | succ i => exact ih i (by omega) (fun c hc => h c (List.mem_cons_of_mem _ hc))
/-- PRINT -/
theorem print_ (g : GIV s) : RES s (f_288 s) f_202 GIV True := by
  obtain ⟨g1, g2, g3, g4, g5, g6⟩ := id g
  rcases g4 with ⟨k1, k2, -⟩ | ⟨k1, k2, kn⟩
  · refine ⟨1, 0, s, ax_u2 (ax_u2 s 84 0 0) 84 0 1, ?_, ?_, ((QF.a84 s 0).trans (QF.a84 _ 1)).gi g, fun _ => ⟨by rw [u2_at, if_pos rfl], fun u => absurd u (by decide)⟩, rfl⟩
    · unfold f_288 f_10
      rw [k1, if_neg (by decide)]
      rfl
    · unfold f_202
      rw [k2, if_neg (by decide)]
      rfl
  · obtain ⟨T, n, t, hp⟩ := kn.pri
    obtain ⟨R0, p1, -⟩ := print_sim hp
    obtain ⟨s1, hs1⟩ : ∃ z : Sg, z = ax_u2 (cwr (ax_u2 s 82 2 0) R0) 136 (0 : Int).toNat (cwr (ax_u2 s 82 2 0) R0 82 2) := ⟨_, rfl⟩
    have q1 : ∀ c, c ≠ 82 → c ≠ 83 → c ≠ 136 → s1 c = s c := fun c u v w => by rw [hs1, u2_row _ _ _ w, cwr_row u v, u2_row _ _ _ u]
    obtain ⟨R, p2, p3, p4, p5⟩ := print_sim (hp.cg (y := s1) (fun c u => q1 c (by omega) (by omega) (by omega)) (fun j _ => by rw [q1 84 (by decide) (by decide) (by decide)]))
    rw [p1] at p2
    have eR : cwr (ax_u2 s 82 2 0) R0 = cwr (ax_u2 s 82 2 0) R := Option.some.inj p2
    have z0 : (ax_u2 s 82 2 0) 82 2 = 0 := by rw [u2_at, if_pos rfl]
    have len := cwr_len R (ax_u2 s 82 2 0) (by rw [z0]; decide) (by rw [z0]; omega)
    rw [z0, Int.zero_add] at len
    obtain ⟨-, at1⟩ := cwr_at R (ax_u2 s 82 2 0) 0 z0 (by omega)
    have y0 : (ax_u2 (ax_u2 s1 84 0 0) 84 9 0) 84 9 = 0 := by rw [u2_at, if_pos rfl]
    have mlen := mwr_len R (ax_u2 (ax_u2 s1 84 0 0) 84 9 0) (by rw [y0]; decide) (by rw [y0]; omega)
    rw [y0, Int.zero_add] at mlen
    obtain ⟨-, at2⟩ := mwr_at R (ax_u2 (ax_u2 s1 84 0 0) 84 9 0) 0 y0 (by omega)
    obtain ⟨s2, hs2⟩ : ∃ z : Sg, z = mwr (ax_u2 (ax_u2 s1 84 0 0) 84 9 0) R := ⟨_, rfl⟩
    have q2 : ∀ c, c ≠ 84 → c ≠ 87 → s2 c = s1 c := fun c u v => by rw [hs2, mwr_row u v, u2_row _ _ _ u, u2_row _ _ _ u]
    have q84 : ∀ j, j ≠ 0 → j ≠ 9 → s2 84 j = s 84 j := fun j u v => by rw [hs2, mwr_j v, u2_col _ _ _ v, u2_col _ _ _ u, q1 84 (by decide) (by decide) (by decide)]
    have qq : ∀ c, c ≠ 82 → c ≠ 83 → c ≠ 84 → c ≠ 87 → c ≠ 136 → s2 c = s c := fun c u1 u2 u3 u4 u5 => by rw [q2 c u3 u4, q1 c u1 u2 u5]
    have l82 : s2 82 2 = (R.length : Int) := by rw [q2 82 (by decide) (by decide), hs1, u2_row _ _ _ (by decide), eR, len]
    rw [← hs2] at mlen at2
    refine ⟨0, (R.length : Int), s1, s2, ?_, ?_, ?_, fun _ => ⟨?_, fun _ => ?_⟩, q1 0 (by decide) (by decide) (by decide)⟩
    · unfold f_288 f_10
      rw [k1, if_pos (by decide), p1, Option.bind_some, hs1]
      rfl
    · rw [hs2]
      exact p3 (by rw [q1 84 (by decide) (by decide) (by decide), k2]; decide)
    · refine ⟨g1.cg (fun c u => qq c (by omega) (by omega) (by omega) (by omega) (by omega)), g2.cg (by rw [qq 27 (by decide) (by decide) (by decide) (by decide) (by decide)]) (qq 28 (by decide) (by decide) (by decide) (by decide) (by decide)) (q84 1 (by decide) (by decide)) (qq 85 (by decide) (by decide) (by decide) (by decide) (by decide)), ⟨R.length, l82, p4, mlen, fun i hi => ?_⟩, GK.cg (Or.inr ⟨k1, k2, kn⟩) (by rw [qq 27 (by decide) (by decide) (by decide) (by decide) (by decide)]) (q84 5 (by decide) (by decide)) (fun c u => qq c (by omega) (by omega) (by omega) (by omega) (by omega)) (fun c u => qq c (by omega) (by omega) (by omega) (by omega) (by omega)) (fun j u0 _ _ u9 => q84 j u0 u9), ?_, ?_⟩
      · have b1 := at1 i hi
        have b2 := at2 i hi
        rw [Nat.zero_add] at b1 b2
        have b3 : 0 ≤ R.getD i 0 ∧ R.getD i 0 < 256 := by
          exact byl_getD R i hi p5
        rw [q2 83 (by decide) (by decide), hs1, u2_row _ _ _ (by decide), eR, b1, b2]
        omega
      · unfold RB at *
        rw [qq 74 (by decide) (by decide) (by decide) (by decide) (by decide)]; exact g5
      · unfold RM at *
        rw [q84 72 (by decide) (by decide)]; exact g6
    · rw [hs2, mwr_j (by decide), u2_col _ _ _ (by decide), u2_at, if_pos rfl]
    · rw [q2 136 (by decide) (by decide), hs1, show (0 : Int).toNat = 0 from rfl, u2_at, if_pos rfl, eR, len]
/-- OUT -/
theorem out_ (g : GIV s) : RES s (f_289 a s) (f_203 a) GIV True := by
  obtain ⟨-, -, ⟨L, l1, l2, l3, l4⟩, -, -, -⟩ := id g
  have w : ax_w32 ((L : Int) - 1) = (L : Int) - 1 := w32_id (by omega) (by omega)
  by_cases c : 0 ≤ a ∧ a < (L : Int)
  · obtain ⟨i, hi⟩ : ∃ i : Nat, a = (i : Int) := ⟨a.toNat, by omega⟩
    have e129 : f_129 a s = 1 := by unfold f_129; rw [if_neg (by omega), l1, if_neg (by omega)]
    have e130 : f_130 a s = s 83 i % 256 := by unfold f_130; rw [e129, if_neg (by decide), hi, Int.toNat_natCast, iand255]
    have b := l4 i (by omega)
    refine ⟨0, s 87 i, ax_u2 s 136 (0 : Int).toNat (s 87 i), ax_u2 (ax_u2 s 136 (0 : Int).toNat (s 87 i)) 84 0 0, ?_, ?_, ((QF.a136 s _).trans (QF.a84 _ 0)).gi g, fun _ => ⟨by rw [u2_at, if_pos rfl], fun _ => ?_⟩, u2_row _ _ _ (by decide)⟩
    · unfold f_289 f_11
      rw [e129, if_pos (by decide), gd_pos (by unfold g_130; exact ⟨fun _ => trivial, fun _ => ⟨by omega, trivial⟩⟩), e130, b.1]
      rfl
    · unfold f_203
      rw [f207, u2_row _ _ _ (show (84 : Nat) ≠ 136 by decide), l3, w, if_pos (show 0 ≤ a ∧ a ≤ (L : Int) - 1 by omega), if_neg (by decide), gd_pos (by omega), u2_row _ _ _ (show (87 : Nat) ≠ 136 by decide), hi, Int.toNat_natCast]
    · rw [u2_row _ _ _ (by decide), show (0 : Int).toNat = 0 from rfl, u2_at, if_pos rfl]
  · have e129 : f_129 a s = 0 := by
      unfold f_129
      by_cases d : a < 0
      · rw [if_pos d]
      · rw [if_neg d, l1, if_pos (by omega)]
    refine ⟨1, 0, s, ax_u2 (ax_u2 s 84 0 0) 84 0 1, ?_, ?_, ((QF.a84 s 0).trans (QF.a84 _ 1)).gi g, fun _ => ⟨by rw [u2_at, if_pos rfl], fun u => absurd u (by decide)⟩, rfl⟩
    · unfold f_289 f_11
      rw [e129, if_neg (by decide)]
      rfl
    · unfold f_203
      rw [f207, l3, w, if_neg (show ¬ (0 ≤ a ∧ a ≤ (L : Int) - 1) by omega), if_pos rfl]
      rfl
/-- AGAIN -/
theorem m204l {L : Nat} : ∀ (r l F : Nat) (s : Sg), l + r = L → L ≤ 8192 → s 84 9 = (L : Int) → ∃ s' : Sg, j_204_23 (F + r + 1) (l : Int) s = j_204_49 s' ∧ (∀ c, c ≠ 85 → s' c = s c) ∧ (∀ i, i < l → s' 85 i = s 85 i) ∧ (∀ i, l ≤ i → i < L → s' 85 i = s 87 i) := by
  intro r
  induction r with
  | zero =>
    intro l F s hl h8 h9
    exact ⟨s, by rw [j_204_23, h9, if_pos (by omega)], fun _ _ => rfl, fun _ _ => rfl, fun i u v => absurd v (by omega)⟩
  | succ r ih =>
    intro l F s hl h8 h9
    obtain ⟨s', e1, e2, e3, e4⟩ := ih (l + 1) F (ax_u2 s 85 l (s 87 l)) (by omega) h8 (by rw [u2_row _ _ _ (by decide)]; exact h9)
    refine ⟨s', ?_, fun c u => by rw [e2 c u, u2_row _ _ _ u], fun i hi => by rw [e3 i (by omega), u2_col _ _ _ (by omega)], fun i u v => ?_⟩
    · rw [show F + (r + 1) + 1 = (F + r + 1) + 1 by omega, j_204_23, h9, if_neg (by omega), gd_pos (by omega), gd_pos (by omega), w32_nat (by omega), Int.toNat_natCast]
      exact e1
    · by_cases q : i = l
      · rw [q, e3 l (by omega), u2_at, if_pos rfl]
      · rw [e4 i (by omega) v, u2_row _ _ _ (by decide)]
theorem again_ (g : GIV s) : RES s (f_290 s) f_204 GIV True := by
  obtain ⟨g1, ⟨n, t1, t2, t3, t4⟩, ⟨L, l1, l2, l3, l4⟩, g4, g5, g6⟩ := id g
  by_cases c : L ≤ 8192
  · have e291 : f_291 (L : Int) 8192 s = (L : Int) := by unfold f_291; rw [if_neg (by omega)]
    obtain ⟨s1, hs1⟩ : ∃ z : Sg, z = ax_u2 (ax_u2 (cpy s 83 28 0 0 L) 27 1 (L : Int)) 136 (0 : Int).toNat (L : Int) := ⟨_, rfl⟩
    have q1 : ∀ c, c ≠ 27 → c ≠ 28 → c ≠ 136 → s1 c = s c := fun c u v w => by rw [hs1, u2_row _ _ _ w, u2_row _ _ _ u]; unfold cpy; rw [if_neg v]
    have q28 : ∀ i, i < L → s1 28 i = s 83 i := fun i hi => by
      rw [hs1, u2_row _ _ _ (by decide), u2_row _ _ _ (by decide)]
      unfold cpy
      rw [if_pos rfl]
      unfold ax_cpy
      rw [if_pos (by omega)]
      congr 1
      omega
    have q27 : ∀ j, s1 27 j = if j = 1 then (L : Int) else s 27 j := fun j => by
      rw [hs1, u2_row _ _ _ (by decide), u2_at, show cpy s 83 28 0 0 L 27 = s 27 from rfl]
    obtain ⟨F, hF⟩ := FU_split (k := L + 1) (by omega)
    obtain ⟨s2, e1, e2, e3, e4⟩ := m204l (L := L) L 0 F (ax_u2 s1 84 0 0) (by omega) c (by rw [u2_col _ _ _ (by decide), q1 84 (by decide) (by decide) (by decide)]; exact l3)
    have e84 : s2 84 9 = (L : Int) := by rw [e2 84 (by decide), u2_col _ _ _ (by decide), q1 84 (by decide) (by decide) (by decide)]; exact l3
    have r2 : ∀ q, q ≠ 27 → q ≠ 28 → q ≠ 136 → q ≠ 84 → q ≠ 85 → ax_u2 s2 84 1 (L : Int) q = s q := fun q u1 u2 u3 u4 u5 => by rw [u2_row _ _ _ u4, e2 q u5, u2_row _ _ _ u4, q1 q u1 u2 u3]
    have r84 : ∀ j, j ≠ 0 → j ≠ 1 → ax_u2 s2 84 1 (L : Int) 84 j = s 84 j := fun j u v => by rw [u2_col _ _ _ v, e2 84 (by decide), u2_col _ _ _ u, q1 84 (by decide) (by decide) (by decide)]
    have v27 : ∀ j, ax_u2 s2 84 1 (L : Int) 27 j = if j = 1 then (L : Int) else s 27 j := fun j => by rw [u2_row _ _ _ (by decide), e2 27 (by decide), u2_row _ _ _ (by decide), q27]
    refine ⟨0, (L : Int), s1, ax_u2 s2 84 1 (L : Int), ?_, ?_, ?_, fun _ => ⟨?_, fun _ => ?_⟩, q1 0 (by decide) (by decide) (by decide)⟩
    · unfold f_290 f_12 f_131_28
      rw [l1, if_pos (by omega), e291, gd_pos (by omega), Option.bind_some, Int.toNat_natCast, hs1]
      rfl
    · unfold f_204
      rw [q1 84 (by decide) (by decide) (by decide), l3, if_pos (by omega)]
      have e1' : j_204_23 FU 0 (ax_u2 s1 84 0 0) = j_204_49 s2 := by rw [show FU = F + L + 1 by omega]; exact e1
      rw [e1']
      unfold j_204_49
      rw [e84]
    · refine ⟨g1.cg (fun q u => r2 q (by omega) (by omega) (by omega) (by omega) (by omega)), ⟨L, by rw [v27, if_pos rfl], c, by rw [u2_at, if_pos rfl], fun i hi => ?_⟩, ⟨L, by rw [r2 82 (by decide) (by decide) (by decide) (by decide) (by decide)]; exact l1, l2, by rw [r84 9 (by decide) (by decide)]; exact l3, by rw [r2 83 (by decide) (by decide) (by decide) (by decide) (by decide), r2 87 (by decide) (by decide) (by decide) (by decide) (by decide)]; exact l4⟩, g4.cg (by rw [v27, if_neg (by decide)]) (r84 5 (by decide) (by decide)) (fun q u => r2 q (by omega) (by omega) (by omega) (by omega) (by omega)) (fun q u => r2 q (by omega) (by omega) (by omega) (by omega) (by omega)) (fun j u1 u2 _ _ => r84 j u1 u2), ?_, ?_⟩
      · rw [u2_row _ _ _ (show (28 : Nat) ≠ 84 by decide), e2 28 (by decide), u2_row _ _ _ (show (28 : Nat) ≠ 84 by decide), q28 i hi, u2_row _ _ _ (show (85 : Nat) ≠ 84 by decide), e4 i (by omega) hi, u2_row _ _ _ (show (87 : Nat) ≠ 84 by decide), q1 87 (by decide) (by decide) (by decide)]
        exact l4 i hi
      · unfold RB at *
        rw [r2 74 (by decide) (by decide) (by decide) (by decide) (by decide)]; exact g5
      · unfold RM at *
        rw [r84 72 (by decide) (by decide)]; exact g6
    · rw [u2_col _ _ _ (by decide), e2 84 (by decide), u2_at, if_pos rfl]
    · rw [u2_row _ _ _ (by decide), e2 136 (by decide), u2_row _ _ _ (by decide), hs1, show (0 : Int).toNat = 0 from rfl, u2_at, if_pos rfl]
  · refine ⟨1, 0, s, ax_u2 (ax_u2 s 84 0 0) 84 0 1, ?_, ?_, ((QF.a84 s 0).trans (QF.a84 _ 1)).gi g, fun _ => ⟨by rw [u2_at, if_pos rfl], fun u => absurd u (by decide)⟩, rfl⟩
    · unfold f_290 f_12
      rw [l1, if_neg (by omega)]
      rfl
    · unfold f_204
      rw [l3, if_neg (by omega)]
      rfl
end CAL
/-! CALLS: fault, statement, bits, node, ring. -/
section QRY
variable {s s' sc sm x y : Sg} {T : TT} {n S P A N K C w : Nat} {t : Nat → Int} {a b : Int}
/-- FAULT -/
theorem c69 (s : Sg) : ∃ r : Int, f_69 s = some r := by
  have go : ∀ (r l F : Nat), l + r = 11 → ∃ q : Int, j_69_2 (F + r + 1) (l : Int) s = some q := by
    intro r
    induction r with
    | zero =>
      intro l F hl
      exact ⟨0, by rw [j_69_2, if_pos (by omega)]⟩
    | succ r ih =>
      intro l F hl
      rw [show F + (r + 1) + 1 = (F + r + 1) + 1 by omega, j_69_2, if_neg (by omega), gd_pos (by omega)]
      by_cases c : s 30 (l : Int).toNat = -1
      · rw [if_pos c, w32_nat (by omega)]
        exact ih (l + 1) F (by omega)
      · rw [if_neg c]
        unfold j_69_21
        exact ⟨_, gd_pos (by omega)⟩
  obtain ⟨F, hF⟩ := FU_split (k := 11) (by omega)
  obtain ⟨q, e⟩ := go 10 1 F (by omega)
  unfold f_69
  rw [show FU = F + 10 + 1 by omega]
  exact ⟨q, e⟩
theorem fault_ (g : GIV s) : RES s (f_283 a s) (f_197 a) GIV False := by
  have m : ∀ s1 : Sg, GIV s1 → ∃ (v : Int) (s2 : Sg), f_197 a s1 = some (v, s2) ∧ GIV s2 := fun s1 g1 => by
    unfold f_197
    by_cases c : a = 0
    · rw [if_neg (fun u => u c)]
      exact ⟨_, _, rfl, (QF.a84 _ 0).gi g1⟩
    · rw [if_pos c]
      by_cases d : a = 1
      · rw [if_neg (fun u => u d)]
        exact ⟨_, _, rfl, (QF.a84 _ 0).gi g1⟩
      · rw [if_pos d]
        exact ⟨_, _, rfl, ((QF.a84 _ 0).trans (QF.a84 _ 1)).gi g1⟩
  have c : ∃ (t0 : Int) (s1 : Sg), f_283 a s = some (t0, s1) ∧ GIV s1 ∧ s1 0 = s 0 := by
    unfold f_283 f_5
    by_cases c : a = 0
    · obtain ⟨r, e, -⟩ := c68 s
      rw [if_neg (fun u => u c), e]
      exact ⟨0, _, rfl, (QF.a136 s _).gi g, u2_row _ _ _ (by decide)⟩
    · rw [if_pos c]
      by_cases d : a = 1
      · obtain ⟨r, e⟩ := c69 s
        rw [if_neg (fun u => u d), e]
        exact ⟨0, _, rfl, (QF.a136 s _).gi g, u2_row _ _ _ (by decide)⟩
      · rw [if_pos d]
        exact ⟨1, _, rfl, g, rfl⟩
  obtain ⟨t0, s1, e1, g1, z1⟩ := c
  obtain ⟨v, s2, e2, g2⟩ := m s1 g1
  exact ⟨t0, v, s1, s2, e1, e2, g2, fun u => u.elim, z1⟩
/-- RING -/
theorem ring_ (g : GIV s) : RES s (f_287 a s) (f_201 a) GIV False := by
  have m : ∀ s1 : Sg, GIV s1 → ∃ (v : Int) (s2 : Sg), f_201 a s1 = some (v, s2) ∧ GIV s2 := fun s1 g1 => by
    obtain ⟨-, -, -, -, -, r0, r1⟩ := id g1
    have no : ∃ (v : Int) (s2 : Sg), j_201_39 (ax_u2 s1 84 0 0) = some (v, s2) ∧ GIV s2 := ⟨_, _, rfl, ((QF.a84 _ 0).trans (QF.a84 _ 1)).gi g1⟩
    unfold f_201
    by_cases c : s1 84 6 = 8
    · rw [if_neg (fun u => u c), f207]
      by_cases d : 0 ≤ a ∧ a ≤ ax_w32 (s1 84 72 - 1)
      · rw [w32_id (by omega) (by omega)] at d
        rw [w32_id (by omega) (by omega), if_pos d, if_neg (by decide), gd_pos (by omega)]
        exact ⟨_, _, rfl, (QF.a84 _ 0).gi g1⟩
      · rw [if_neg d, if_pos rfl]
        exact no
    · rw [if_pos c]
      exact no
  have c : ∃ (t0 : Int) (s1 : Sg), f_287 a s = some (t0, s1) ∧ GIV s1 ∧ s1 0 = s 0 := by
    obtain ⟨-, -, -, -, ⟨r0, r1⟩, -⟩ := id g
    unfold f_287 f_9
    by_cases c : f_161 a s = 0
    · rw [if_neg (fun u => u c)]
      exact ⟨1, _, rfl, g, rfl⟩
    · have : 0 ≤ a ∧ a < s 74 13 := by
        unfold f_161 at c
        by_cases d : a < 0
        · rw [if_pos d] at c; exact absurd rfl c
        · rw [if_neg d] at c
          by_cases e : s 74 13 ≤ a
          · rw [if_pos e] at c; exact absurd rfl c
          · omega
      rw [if_pos c, gd_pos (by unfold g_162; exact ⟨fun _ => trivial, fun _ => ⟨by omega, trivial⟩⟩)]
      exact ⟨0, _, rfl, (QF.a136 s _).gi g, u2_row _ _ _ (by decide)⟩
  obtain ⟨t0, s1, e1, g1, z1⟩ := c
  obtain ⟨v, s2, e2, g2⟩ := m s1 g1
  exact ⟨t0, v, s1, s2, e1, e2, g2, fun u => u.elim, z1⟩
/-- what was read, told of one state: sc has the widths as they were before the checks -/
theorem KN.ck (h : KN s) : ∃ (T : TT) (t : Nat → Int) (n : Nat) (sc : Sg) (S P A N K C : Nat), CKX T sc s n t S P A N K C 1 ∧ GOOD T sc s S A N 1 ∧ (∀ c, c ≠ 48 → sc c = s c) ∧ S ≤ 1171 ∧ K ≤ N ∧ s 54 6 = (S : Int) ∧ (∀ i, i < S → s 59 i = s 102 i) ∧ (∀ i, i < S → s 60 i + s 103 i = (if i + 1 < S then s 60 (i + 1) else (N : Int))) ∧ (∀ i : Nat, i < S → s 94 i = 3 → s 57 i = T.vl 1) ∧ (∀ k, k < N → (s 122 k = -2 ∧ s 48 k = 0) ∨ (1 ≤ s 122 k ∧ s 122 k ≤ 32 ∧ s 48 k = s 122 k)) := by
  obtain ⟨T, t, n, sc0, sm0, sc1, sm1, x, y, S, P, A, N, K, C, a1, a2, a3, a4, a5, a6, a7, a8, a9, a10⟩ := h
  obtain ⟨r1, r2, r3⟩ := kn_rows a6 a8 a9 a10
  obtain ⟨hk, hS, hC, hK, h103⟩ := ckx_in a1 a2 a5 a3
  obtain ⟨o1, o2, o3, o4, o5, o6, o7, o8, o9, o10, o11, o12, o13⟩ := id a6
  obtain ⟨hB, h70, h19, h7, h37, hnc, htl, hdp⟩ := a5
  obtain ⟨e1, e2, e3, e4, e5, e6, e7, e8, e9, e10, e11, e12, e13, e14, e15, e16, e17, e18, e19, e20, e21, e22, e23, e24, e25, e26, e27, e28, e29, e30, e31⟩ := hB
  obtain ⟨sc, hsc⟩ : ∃ z : Sg, z = fun c => if c = 48 then sc1 48 else s c := ⟨_, rfl⟩
  have q1 : ∀ c, c ≠ 48 → sc c = s c := fun c u => by rw [hsc]; simp only [if_neg u]
  have q48 : sc 48 = sc1 48 := by rw [hsc]; simp only [if_true]
  have cn1 : CN sc1 := o12 a7
  have cn : CN sc := by
    have f := o8.mpr a7
    unfold CN
    rw [q1 30 (by decide), a8 30 (by decide)]
    exact ⟨f 4 (by decide) (by decide), f 5 (by decide) (by decide), f 6 (by decide) (by decide), f 7 (by decide) (by decide)⟩
  have mv : MVr sc1 sm1 sc s := by
    refine ⟨fun c u v => ?_, ⟨fun _ => cn1, fun _ => cn⟩, fun c u v w => r2 c w v, fun j u6 u7 u8 u => r3 j u.2.1 u.2.2.1 u.2.2.2.1 u6 u7 u8 u.2.2.2.2 u.1⟩
    by_cases c48 : c = 48
    · rw [c48]; exact q48
    · rw [q1 c c48, r1 c v c48]
  have ck : CKX T sc s n t S P A N K C 1 := by rw [CKX_mv mv]; exact hk
  have gd : GOOD T sc s S A N 1 := ck.2.2.2.1.2.2.2.2.2.2.1.mp cn
  have h54 : s 54 = sc1 54 := r1 54 (by decide) (by decide)
  refine ⟨T, t, n, sc, S, P, A, N, K, C, ck, gd, q1, hS, e26, by rw [h54]; exact e10, fun i hi => ?_, fun i hi => ?_, fun i hi h3 => ?_, fun k hk => ?_⟩
  · rw [r1 59 (by decide) (by decide), r2 102 (by decide) (by decide)]
    exact e18 i hi
  · rw [r1 60 (by decide) (by decide), r2 103 (by decide) (by decide)]
    exact hnc i hi
  · rw [r2 94 (by decide) (by decide)] at h3
    have wb := gd.1.2
    rw [r1 57 (by decide) (by decide), o13 a7 i (by rw [e10]; omega) h3, e29]
    unfold mn
    rw [if_neg (by omega)]
  · rw [a8 48 (by decide), a9 122 (by decide)]
    exact o9 a7 k hk
/-- STATEMENT -/
theorem f217 (s : Sg) (h5 : s 84 5 = 1) (h19 : s 84 19 = (S : Int)) (hS : S ≤ 4100) : f_217 a s = if 0 ≤ a ∧ a < (S : Int) then 1 else 0 := by
  unfold f_217
  rw [h5, if_neg (by decide), f207, h19, w32_id (by omega) (by omega)]
  by_cases c : 0 ≤ a ∧ a < (S : Int)
  · rw [if_pos (show 0 ≤ a ∧ a ≤ (S : Int) - 1 by omega), if_neg (by decide), if_pos c]
  · rw [if_neg (show ¬ (0 ≤ a ∧ a ≤ (S : Int) - 1) by omega), if_pos rfl, if_neg c]
theorem f181 (s : Sg) (h : s 54 6 = (S : Int)) : f_181 a s = if 0 ≤ a ∧ a < (S : Int) then 1 else 0 := by
  unfold f_181
  by_cases c : a < 0
  · rw [if_pos c, if_neg (by omega)]
  · rw [if_neg c, h]
    by_cases d : (S : Int) ≤ a
    · rw [if_pos d, if_neg (by omega)]
    · rw [if_neg d, if_pos (by omega)]
/-- both answer v -/
theorem RES.ok {rc : Option (Int × Sg)} {rm : Sg → Option (Int × Sg)} {v : Int} (g : GIV s) (h1 : rc = some (0, ax_u2 s 136 (0 : Int).toNat v)) (h2 : ∀ s1 : Sg, QF s s1 → rm s1 = some (v, ax_u2 s1 84 0 0)) : RES s rc rm GIV True :=
  ⟨0, v, _, _, h1, h2 _ (QF.a136 s v), ((QF.a136 s v).trans (QF.a84 _ 0)).gi g, fun _ => ⟨by rw [u2_at, if_pos rfl], fun _ => by rw [u2_row _ _ _ (by decide), show (0 : Int).toNat = 0 from rfl, u2_at, if_pos rfl]⟩, u2_row _ _ _ (by decide)⟩
/-- both tell a mark -/
theorem RES.no {rc : Option (Int × Sg)} {rm : Sg → Option (Int × Sg)} {v : Int} (g : GIV s) (hv : v ≠ 0) (h1 : rc = some (v, s)) (h2 : rm s = some (0, ax_u2 (ax_u2 s 84 0 0) 84 0 v)) : RES s rc rm GIV True :=
  ⟨v, 0, _, _, h1, h2, ((QF.a84 s 0).trans (QF.a84 _ v)).gi g, fun _ => ⟨by rw [u2_at, if_pos rfl], fun u => absurd u hv⟩, rfl⟩
theorem RES.wk {rc : Option (Int × Sg)} {rm : Sg → Option (Int × Sg)} {E E' : Prop} (h : RES s rc rm GIV E) (k : E' → E) : RES s rc rm GIV E' := by
  obtain ⟨t0, v, s1, s2, h1, h2, h3, h4, h5⟩ := h
  exact ⟨t0, v, s1, s2, h1, h2, h3, fun u => h4 (k u), h5⟩
theorem QF.tx (h : QF s s') (hX : TX T sc s n t) : TX T sc (ax_u2 s' 84 0 0) n t := hX.cg (fun _ _ => rfl) (fun c u => by rw [u2_row _ _ _ (by omega), h.1 c (by omega) (by omega)]) (by rw [u2_col _ _ _ (by decide), h.2 3 (by decide)])
theorem statement_ (g : GIV s) : RES s (f_284 a b s) (f_198 a b) GIV True := by
  obtain ⟨-, -, -, gk, -, -⟩ := id g
  rcases gk with ⟨k1, k2, k3, k4, k5⟩ | ⟨k1, k2, kn⟩
  · refine RES.no (v := 1) g (by decide) ?_ ?_
    · unfold f_284 f_6
      rw [show f_181 a s = 0 from by rw [f181 (S := 0) s k3, if_neg (by omega)], if_pos rfl]
      rfl
    · unfold f_198 f_217
      rw [u2_col _ _ _ (by decide), k2, if_pos rfl, if_pos rfl]
      rfl
  · obtain ⟨T, t, n, sc, S, P, A, N, K, C, ck, gd, q1, hS, hK, h54, h59, h60, h57, -⟩ := kn.ck
    obtain ⟨hT, hX, hC, hD, hN, h19, h31, h34, h30, wz, tw, S8, P8, A8, N8⟩ := id ck
    by_cases c : (0 ≤ a ∧ a < (S : Int)) ∧ (0 ≤ b ∧ b ≤ 4)
    · obtain ⟨c1, c2⟩ := c
      obtain ⟨i, hi⟩ : ∃ i : Nat, a = (i : Int) := ⟨a.toNat, by omega⟩
      have iS : i < S := by omega
      have e181 : ∀ q : Int, f_181 q s = if 0 ≤ q ∧ q < (S : Int) then 1 else 0 := fun q => f181 s h54
      have a181 : f_181 a s = 1 := by rw [e181, if_pos c1]
      have m217 : ∀ s1 : Sg, QF s s1 → f_217 a (ax_u2 s1 84 0 0) = 1 := fun s1 q => by rw [f217 (S := S) _ (by rw [u2_col _ _ _ (by decide), q.2 5 (by decide)]; exact k2) (by rw [u2_col _ _ _ (by decide), q.2 19 (by decide)]; exact h19) (by omega), if_pos c1]
      obtain ⟨hd, p0, pc, n0, b1, b2, b3, b4, b5, b6, b7, b8, b9, b10, b11⟩ := hD.1 i iS
      have gs := gd.2.1 i iS
      have r : ∀ s1 : Sg, QF s s1 → ∀ c, 88 ≤ c → c ≤ 135 → s1 c = s c := fun s1 q c u v => q.1 c (by omega) (by omega)
      rw [q1 55 (by decide)] at b5
      have gc : (f_181 a s = 0 → True) ∧ (¬ (f_181 a s = 0) → ((0 ≤ a ∧ a < 1171) ∧ True)) := ⟨fun _ => trivial, fun _ => ⟨by omega, trivial⟩⟩
      have cas : b = 0 ∨ b = 1 ∨ b = 2 ∨ b = 3 ∨ b = 4 := by omega
      rcases cas with e | e | e | e | e
      · -- what it is
        refine RES.ok (v := s 94 i) g ?_ (fun s1 q => ?_)
        · unfold f_284 f_6
          rw [a181, if_neg (by decide), if_neg (by omega), if_pos (by omega), if_pos e, gd_pos (p := g_182 a s) gc]
          unfold f_182
          rw [a181, if_neg (by decide), hi, Int.toNat_natCast, b5]
          rfl
        · unfold f_198
          rw [m217 s1 q, if_neg (by decide), f207, if_pos c2, if_pos (by decide), if_neg (fun u => u e), gd_pos (by omega), hi, Int.toNat_natCast, r s1 q 94 (by decide) (by decide)]
      · -- its width
        have key : ∃ v : Int, s 57 i = v ∧ ∀ s1 : Sg, QF s s1 → (if ¬ (s1 94 i) = 3 then j_198_71 (s1 97 i) (ax_u2 s1 84 0 0) else j_198_71 (s1 84 30) (ax_u2 s1 84 0 0)) = some (v, ax_u2 s1 84 0 0) := by
          by_cases c3 : s 94 i = 3
          · have wb := gd.1
            refine ⟨T.vl 1, h57 i iS c3, fun s1 q => ?_⟩
            rw [r s1 q 94 (by decide) (by decide), if_neg (fun u => u c3), q.2 30 (by decide), h30]
            unfold j_198_71
            rw [m218 hT (q.tx hX) wz tw, Option.bind_some, w32_id (by omega) (by omega)]
          · have sk : SKW T sc s i := by
              rcases b11 with u | u | u | u
              · exact u.2.2.1
              · exact u.2.2.1
              · exact u.2.2.1
              · exact absurd u.1 c3
            obtain ⟨w, w1, w2, w3, w4⟩ := sk
            have lt : s 94 i < 3 := by
              rcases b11 with u | u | u | u
              · omega
              · omega
              · omega
              · exact absurd u.1 c3
            have gw := gs.1 lt
            rw [w1, Int.toNat_natCast] at gw
            refine ⟨T.vl w, ?_, fun s1 q => ?_⟩
            · rw [← q1 57 (by decide), w4]
              unfold mn
              rw [if_neg (by omega)]
            · rw [r s1 q 94 (by decide) (by decide), if_pos c3, r s1 q 97 (by decide) (by decide), w1]
              unfold j_198_71
              rw [m218 hT (q.tx hX) w2 w3, Option.bind_some, w32_id (by omega) (by omega)]
        obtain ⟨v, v1, v2⟩ := key
        refine RES.ok (v := v) g ?_ (fun s1 q => ?_)
        · unfold f_284 f_6
          rw [a181, if_neg (by decide), if_neg (by omega), if_pos (by omega), if_neg (by omega), if_pos e, gd_pos (p := g_183 a s) gc]
          unfold f_183
          rw [a181, if_neg (by decide), hi, Int.toNat_natCast, v1]
          rfl
        · have := v2 s1 q
          unfold f_198
          rw [m217 s1 q, if_neg (by decide), f207, if_pos c2, if_pos (by decide), if_pos (by omega), if_neg (fun u => u e), gd_pos (by omega), hi, Int.toNat_natCast]
          rw [gd_pos (by omega)]
          exact this
      · -- registers, address bits, parameters, parts
        have key : ∃ v : Int, s 58 i = v ∧ ∀ s1 : Sg, QF s s1 → (if s1 94 i ≤ 1 then (if 0 ≤ s1 96 i then (f_218 (s1 96 i) (ax_u2 s1 84 0 0)).bind fun q2 => some (ax_w32 q2, (ax_u2 s1 84 0 0)) else some (0, (ax_u2 s1 84 0 0))) else some (s1 99 i, (ax_u2 s1 84 0 0))) = some (v, ax_u2 s1 84 0 0) := by
          have skc : s 94 i ≤ 1 → SKC T sc s i → ∃ v : Int, s 58 i = v ∧ ∀ s1 : Sg, QF s s1 → (if s1 94 i ≤ 1 then (if 0 ≤ s1 96 i then (f_218 (s1 96 i) (ax_u2 s1 84 0 0)).bind fun q2 => some (ax_w32 q2, (ax_u2 s1 84 0 0)) else some (0, (ax_u2 s1 84 0 0))) else some (s1 99 i, (ax_u2 s1 84 0 0))) = some (v, ax_u2 s1 84 0 0) := fun l1 sk => by
            obtain ⟨w, w1, w2, w3, w4⟩ := sk
            have gv : 0 ≤ T.vl w ∧ T.vl w ≤ 64 := by
              have v0 := (hT.2.2.2.2.1 w w2).1
              by_cases z : s 94 i = 0
              · have := gs.2.2.1 z (by omega)
                rw [w1, Int.toNat_natCast] at this
                unfold pw2 at this
                omega
              · have z1 : s 94 i = 1 := by
                  rcases b11 with u | u | u | u
                  · exact absurd u.1 z
                  · exact u.1
                  · omega
                  · omega
                have := gs.2.1 z1
                rw [w1, Int.toNat_natCast] at this
                omega
            refine ⟨T.vl w, ?_, fun s1 q => ?_⟩
            · rw [← q1 58 (by decide), w4]
              unfold mn
              rw [if_neg (by omega)]
            · rw [r s1 q 94 (by decide) (by decide), if_pos l1, r s1 q 96 (by decide) (by decide), w1, if_pos (by omega), m218 hT (q.tx hX) w2 w3, Option.bind_some, w32_id (by omega) (by omega)]
          have prt : 1 < s 94 i → sc 58 i = (pc : Int) → ∃ v : Int, s 58 i = v ∧ ∀ s1 : Sg, QF s s1 → (if s1 94 i ≤ 1 then (if 0 ≤ s1 96 i then (f_218 (s1 96 i) (ax_u2 s1 84 0 0)).bind fun q2 => some (ax_w32 q2, (ax_u2 s1 84 0 0)) else some (0, (ax_u2 s1 84 0 0))) else some (s1 99 i, (ax_u2 s1 84 0 0))) = some (v, ax_u2 s1 84 0 0) := fun l1 sk => by
            refine ⟨(pc : Int), by rw [← q1 58 (by decide), sk], fun s1 q => ?_⟩
            rw [r s1 q 94 (by decide) (by decide), if_neg (by omega), r s1 q 99 (by decide) (by decide), b7]
          rcases b11 with u | u | u | u
          · rcases u.2.2.2 with ⟨v1, v2⟩ | v
            · refine ⟨0, by rw [← q1 58 (by decide), v2], fun s1 q => ?_⟩
              rw [r s1 q 94 (by decide) (by decide), if_pos (by omega), r s1 q 96 (by decide) (by decide), v1, if_neg (by decide)]
            · exact skc (by omega) v
          · exact skc (by omega) u.2.2.2
          · exact prt (by omega) u.2.1
          · exact prt (by omega) u.2.1
        obtain ⟨v, v1, v2⟩ := key
        refine RES.ok (v := v) g ?_ (fun s1 q => ?_)
        · unfold f_284 f_6
          rw [a181, if_neg (by decide), if_neg (by omega), if_pos (by omega), if_neg (by omega), if_neg (by omega), if_pos e, gd_pos (p := g_184 a s) gc]
          unfold f_184
          rw [a181, if_neg (by decide), hi, Int.toNat_natCast, v1]
          rfl
        · have := v2 s1 q
          unfold f_198
          rw [m217 s1 q, if_neg (by decide), f207, if_pos c2, if_pos (by decide), if_pos (by omega), if_pos (by omega), if_neg (fun u => u e), gd_pos (by omega), gd_pos (by omega), gd_pos (by omega), gd_pos (by omega), hi, Int.toNat_natCast]
          exact this
      · -- actions
        refine RES.ok (v := s 102 i) g ?_ (fun s1 q => ?_)
        · unfold f_284 f_6
          rw [a181, if_neg (by decide), if_neg (by omega), if_pos (by omega), if_neg (by omega), if_neg (by omega), if_neg (by omega), if_pos e, gd_pos (p := g_185 a s) gc]
          unfold f_185
          rw [a181, if_neg (by decide), hi, Int.toNat_natCast, h59 i iS]
          rfl
        · unfold f_198
          rw [m217 s1 q, if_neg (by decide), f207, if_pos c2, if_pos (by decide), if_pos (by omega), if_pos (by omega), if_pos (by omega), if_neg (fun u => u e), gd_pos (by omega), hi, Int.toNat_natCast, r s1 q 102 (by decide) (by decide)]
      · -- nodes
        have h6 := h60 i iS
        have n0' : s 60 i = (n0 : Int) := by rw [← q1 60 (by decide)]; exact b9
        have a186 : f_186 a s = (n0 : Int) := by unfold f_186; rw [a181, if_neg (by decide), hi, Int.toNat_natCast, n0']
        refine RES.ok (v := s 103 i) g ?_ (fun s1 q => ?_)
        · have j129 : ∀ z : Int, 0 ≤ z → z ≤ 8192 → s 103 i = z - (n0 : Int) → j_6_129 a z s = some (.inl (s 103 i, s)) := fun z z0 z1 z2 => by
            unfold j_6_129
            rw [gd_pos (p := g_186 a s) gc, a186, w32_id (by omega) (by omega), z2]
          have fin : f_6 a b s = some (.inl (s 103 i, s)) := by
            unfold f_6
            rw [a181, if_neg (by decide), if_neg (by omega), if_pos (by omega), if_neg (by omega), if_neg (by omega), if_neg (by omega), if_neg (by omega), hi, w32_nat (by omega)]
            by_cases l : i + 1 < S
            · rw [if_pos l] at h6
              obtain ⟨_, _, _, n1, _, _, _, _, _, _, _, _, d9, d10, _⟩ := hD.1 (i + 1) l
              rw [q1 60 (by decide)] at d9
              have i181 : f_181 ((i + 1 : Nat) : Int) s = 1 := by rw [e181, if_pos (by omega)]
              have e186 : f_186 ((i + 1 : Nat) : Int) s = (n1 : Int) := by unfold f_186; rw [i181, if_neg (by decide), Int.toNat_natCast, d9]
              rw [i181, if_neg (by decide), gd_pos (p := g_186 ((i + 1 : Nat) : Int) s) ⟨fun _ => trivial, fun _ => ⟨by omega, trivial⟩⟩, e186, ← hi]
              exact j129 _ (by omega) (by omega) (by omega)
            · rw [if_neg l] at h6
              have e46 : s 46 7 = (N : Int) := by rw [← q1 46 (by decide)]; exact hN.1
              have i181 : f_181 ((i + 1 : Nat) : Int) s = 0 := by rw [e181, if_neg (by omega)]
              rw [i181, if_pos rfl, e46, ← hi]
              exact j129 _ (by omega) (by omega) (by omega)
          unfold f_284
          rw [fin]
          rfl
        · unfold f_198
          rw [m217 s1 q, if_neg (by decide), f207, if_pos c2, if_pos (by decide), if_pos (by omega), if_pos (by omega), if_pos (by omega), if_pos (by omega), gd_pos (by omega), hi, Int.toNat_natCast, r s1 q 103 (by decide) (by decide)]
    · refine RES.no (v := 1) g (by decide) ?_ ?_
      · unfold f_284 f_6
        rw [f181 (S := S) s h54]
        by_cases c1 : 0 ≤ a ∧ a < (S : Int)
        · rw [if_pos c1, if_neg (by decide)]
          by_cases d : b < 0
          · rw [if_pos d]; rfl
          · rw [if_neg d, if_neg (by omega)]; rfl
        · rw [if_neg c1, if_pos rfl]; rfl
      · unfold f_198
        rw [f217 (S := S) _ (by rw [u2_col _ _ _ (by decide)]; exact k2) (by rw [u2_col _ _ _ (by decide)]; exact h19) (by omega)]
        by_cases c1 : 0 ≤ a ∧ a < (S : Int)
        · rw [if_pos c1, if_neg (by decide), f207, if_neg (fun u => c ⟨c1, u⟩), if_neg (by decide)]; rfl
        · rw [if_neg c1, if_pos rfl]; rfl
end QRY
/-! CALLS: node, bits. -/
section NOB
variable {s s' sc sm x y : Sg} {T : TT} {n S P A N K C w : Nat} {t : Nat → Int} {a b : Int}
theorem f114 (s : Sg) (h : s 46 7 = (N : Int)) : f_114 a s = if 0 ≤ a ∧ a < (N : Int) then 1 else 0 := by
  unfold f_114
  by_cases c : a < 0
  · rw [if_pos c, if_neg (by omega)]
  · rw [if_neg c, h]
    by_cases d : (N : Int) ≤ a
    · rw [if_pos d, if_neg (by omega)]
    · rw [if_neg d, if_pos (by omega)]
/-- a node's parts, one after another -/
theorem c119n (hN : ND T sc sm N K) (h8 : N ≤ 8192) (r46 : s 46 = sc 46) (r51 : s 51 = sc 51) (r52 : s 52 = sc 52) {m c q : Nat} (hm : m < N) (e1 : sm 120 m = (c : Int)) (e2 : sm 121 m = (q : Int)) {i : Nat} (hi : i ≤ 3) : f_119 (m : Int) (i : Int) s = some (if i < c then sm 125 (q + i) else -1) := by
  have h46 : s 46 7 = (N : Int) := by rw [r46]; exact hN.1
  have f14 : ∀ z : Int, f_114 z s = if 0 ≤ z ∧ z < (N : Int) then 1 else 0 := fun z => f114 s h46
  obtain ⟨c', q', d1, d2, d3, d4, d5, d6, d7, d8, d9, d10, d11, d12, -⟩ := hN.2.2.2 m hm
  have ec : c' = c := by omega
  have eq' : q' = q := by omega
  subst ec eq'
  have st : ∀ e : Nat, f_121 (if e < c' then sm 125 (q' + e) else -1) s = (if e + 1 < c' then sm 125 (q' + (e + 1)) else -1) ∧ g_121 (if e < c' then sm 125 (q' + e) else -1) s := fun e => by
    by_cases u : e < c'
    · obtain ⟨x, x1, x2, x3⟩ := d12 e u
      rw [if_pos u, x1]
      unfold f_121 g_121
      rw [show f_114 (x : Int) s = 1 from by rw [f14, if_pos (by omega)], if_neg (by decide), Int.toNat_natCast, r52]
      exact ⟨x3, fun _ => trivial, fun _ => ⟨by omega, trivial⟩⟩
    · rw [if_neg u, if_neg (by omega)]
      unfold f_121 g_121
      rw [show f_114 (-1) s = 0 from by rw [f14, if_neg (by omega)], if_pos rfl]
      exact ⟨rfl, fun _ => trivial, fun v => absurd rfl v⟩
  have go : ∀ (r e F : Nat), e + r = i → j_119_9 (F + r + 1) (i : Int) (if e < c' then sm 125 (q' + e) else -1) (e : Int) s = some (if i < c' then sm 125 (q' + i) else -1) := by
    intro r
    induction r with
    | zero =>
      intro e F he
      rw [j_119_9, if_pos (by omega), show e = i by omega]
    | succ r ih =>
      intro e F he
      obtain ⟨s1, s2⟩ := st e
      rw [show F + (r + 1) + 1 = (F + r + 1) + 1 by omega, j_119_9, if_neg (by omega), gd_pos s2, s1, w32_nat (by omega)]
      exact ih (e + 1) F (by omega)
  unfold f_119
  have e120 : f_120 (m : Int) s = (if 0 < c' then sm 125 (q' + 0) else -1) := by
    unfold f_120
    rw [show f_114 (m : Int) s = 1 from by rw [f14, if_pos (by omega)], if_neg (by decide), Int.toNat_natCast, r51, d11]
    rfl
  obtain ⟨F, hF⟩ := FU_split (k := i + 1) (by omega)
  rw [gd_pos (by unfold g_120; exact ⟨fun _ => trivial, fun _ => ⟨by omega, trivial⟩⟩), e120, show FU = F + i + 1 by omega]
  exact go i 0 F (by omega)
theorem node_ (g : GIV s) : RES s (f_286 a b s) (f_200 a b) GIV (b ≠ 1) := by
  obtain ⟨-, -, -, gk, -, -⟩ := id g
  rcases gk with ⟨k1, k2, k3, k4, k5⟩ | ⟨k1, k2, kn⟩
  · refine (RES.no (v := 1) g (by decide) ?_ ?_).wk (fun _ => trivial)
    · unfold f_286 f_8
      rw [show f_114 a s = 0 from by rw [f114 (N := 0) s k4, if_neg (by omega)], if_pos rfl]
      rfl
    · unfold f_200
      rw [k2, if_pos rfl]
      rfl
  · obtain ⟨T, t, n, sc, S, P, A, N, K, C, ck, gd, q1, hS, hK, h54, h59, h60, h57, h48⟩ := kn.ck
    obtain ⟨hT, hX, hC, hD, hN, h19, h31, h34, h30, wz, tw, S8, P8, A8, N8⟩ := id ck
    have h46 : s 46 7 = (N : Int) := by rw [← q1 46 (by decide)]; exact hN.1
    have h47 := hN.2.1
    by_cases c : (0 ≤ a ∧ a < (N : Int)) ∧ (-1 ≤ b ∧ b ≤ 6)
    · obtain ⟨c1, c2⟩ := c
      obtain ⟨m, hm⟩ : ∃ m : Nat, a = (m : Int) := ⟨a.toNat, by omega⟩
      have mN : m < N := by omega
      have a114 : f_114 a s = 1 := by rw [f114 s h46, if_pos c1]
      have gc : (f_114 a s = 0 → True) ∧ (¬ (f_114 a s = 0) → ((0 ≤ a ∧ a < 8192) ∧ True)) := ⟨fun _ => trivial, fun _ => ⟨by omega, trivial⟩⟩
      obtain ⟨cc, q, d1, d2, d3, d4, d5, d6, d7, d8, d9, d10, d11, d12, nv⟩ := hN.2.2.2 m mN
      have r : ∀ s1 : Sg, QF s s1 → ∀ c, 88 ≤ c → c ≤ 135 → s1 c = s c := fun s1 q c u v => q.1 c (by omega) (by omega)
      have w47 : ax_w32 ((N : Int) - 1) = (N : Int) - 1 := w32_id (by omega) (by omega)
      have m1 : ∀ s1 : Sg, QF s s1 → ¬ (s1 84 5 = 0) ∧ ¬ (f_207 a 0 (ax_w32 (s1 84 47 - 1)) (ax_u2 s1 84 0 0) = 0) ∧ ¬ (f_207 b (-1) 6 (ax_u2 s1 84 0 0) = 0) := fun s1 q => by
        rw [q.2 5 (by decide), k2, q.2 47 (by decide), h47, w47, f207, f207, if_pos (by omega), if_pos c2]
        decide
      have cas : b = -1 ∨ b = 0 ∨ b = 1 ∨ b = 2 ∨ 3 ≤ b := by omega
      rcases cas with e | e | e | e | e
      · -- its number
        have key : ∃ v : Int, s 49 m = v ∧ ∀ s1 : Sg, QF s s1 → (if ¬ (s1 116 m) = 0 then (if ¬ (s1 116 m) = 7 then some ((-1), (ax_u2 s1 84 0 0)) else (f_218 (s1 119 m) (ax_u2 s1 84 0 0)).bind fun q2 => some (ax_w32 q2, (ax_u2 s1 84 0 0))) else (f_218 (s1 118 m) (ax_u2 s1 84 0 0)).bind fun q3 => some (ax_w32 q3, (ax_u2 s1 84 0 0))) = some (v, ax_u2 s1 84 0 0) := by
          obtain ⟨v1, v2, v3, v4, v5⟩ := nv
          rw [q1 49 (by decide)] at v1 v2 v3 v4 v5
          by_cases z0 : s 116 m = 0
          · obtain ⟨x, w, u1, u2, u3, u4, u5, u6, u7, u8⟩ := v1 z0
            refine ⟨ax_w32 (T.vl x), u7, fun s1 q => ?_⟩
            rw [r s1 q 116 (by decide) (by decide), if_neg (fun u => u z0), r s1 q 118 (by decide) (by decide), u1, m218 hT (q.tx hX) u3 u5, Option.bind_some]
          · by_cases z7 : s 116 m = 7
            · obtain ⟨x, w, u1, u2, u3, u4, u5, u6, u7, u8⟩ := v3 z7
              have gw := (gd.2.2.2 m mN).2.2.1 z7
              rw [u1, u2, Int.toNat_natCast, Int.toNat_natCast] at gw
              have w0 := (hT.2.2.2.2.1 w u4).1
              refine ⟨T.vl w, ?_, fun s1 q => ?_⟩
              · rw [u7]
                unfold mn
                rw [if_neg (by omega)]
              · rw [r s1 q 116 (by decide) (by decide), if_pos z0, if_neg (fun u => u z7), r s1 q 119 (by decide) (by decide), u2, m218 hT (q.tx hX) u4 u6, Option.bind_some, w32_id (by omega) (by omega)]
            · refine ⟨-1, ?_, fun s1 q => ?_⟩
              · by_cases z3 : s 116 m ≤ 3
                · obtain ⟨x, _, _, _, _, u⟩ := v4 (by omega) z3
                  exact u
                · by_cases z5 : s 116 m = 4 ∨ s 116 m = 5
                  · obtain ⟨w, _, _, _, u, _⟩ := v2 z5
                    exact u
                  · exact (v5 (by omega)).1
              · rw [r s1 q 116 (by decide) (by decide), if_pos z0, if_pos z7]
        obtain ⟨v, v1, v2⟩ := key
        refine (RES.ok (v := v) g ?_ (fun s1 q => ?_)).wk (fun _ => trivial)
        · unfold f_286 f_8
          rw [a114, if_neg (by decide), if_neg (by omega), if_pos (by omega), if_pos e, gd_pos (p := g_115 a s) gc]
          unfold f_115
          rw [a114, if_neg (by decide), hm, Int.toNat_natCast, v1]
          rfl
        · have := v2 s1 q
          obtain ⟨x1, x2, x3⟩ := m1 s1 q
          unfold f_200
          rw [if_neg x1, if_neg x2, if_pos x3, if_neg (fun u => u e), gd_pos (by omega), gd_pos (by omega), gd_pos (by omega), gd_pos (by omega), hm, Int.toNat_natCast]
          exact this
      · -- its kind
        refine (RES.ok (v := s 116 m) g ?_ (fun s1 q => ?_)).wk (fun _ => trivial)
        · unfold f_286 f_8
          rw [a114, if_neg (by decide), if_neg (by omega), if_pos (by omega), if_neg (by omega), if_pos e, gd_pos (p := g_116 a s) gc]
          unfold f_116
          rw [a114, if_neg (by decide), hm, Int.toNat_natCast, ← q1 47 (by decide), d5]
          rfl
        · obtain ⟨x1, x2, x3⟩ := m1 s1 q
          unfold f_200
          rw [if_neg x1, if_neg x2, if_pos x3, if_pos (by omega), if_neg (by omega), if_neg (fun u => u e), gd_pos (by omega), hm, Int.toNat_natCast, r s1 q 116 (by decide) (by decide)]
      · -- its width
        refine ⟨0, s 122 m, ax_u2 s 136 (0 : Int).toNat (s 48 m), ax_u2 (ax_u2 s 136 (0 : Int).toNat (s 48 m)) 84 0 0, ?_, ?_, ((QF.a136 s _).trans (QF.a84 _ 0)).gi g, fun u => absurd e u, u2_row _ _ _ (by decide)⟩
        · unfold f_286 f_8
          rw [a114, if_neg (by decide), if_neg (by omega), if_pos (by omega), if_neg (by omega), if_neg (by omega), if_pos e, gd_pos (p := g_117 a s) gc]
          unfold f_117
          rw [a114, if_neg (by decide), hm, Int.toNat_natCast]
          rfl
        · have q := QF.a136 s (s 48 m)
          obtain ⟨x1, x2, x3⟩ := m1 _ q
          unfold f_200
          rw [if_neg x1, if_neg x2, if_pos x3, if_pos (by omega), if_neg (by omega), if_pos (by omega), if_neg (fun u => u e), gd_pos (by omega), hm, Int.toNat_natCast, r _ q 122 (by decide) (by decide)]
      · -- how many
        refine (RES.ok (v := s 120 m) g ?_ (fun s1 q => ?_)).wk (fun _ => trivial)
        · unfold f_286 f_8
          rw [a114, if_neg (by decide), if_neg (by omega), if_pos (by omega), if_neg (by omega), if_neg (by omega), if_neg (by omega), if_pos e, gd_pos (p := g_118 a s) gc]
          unfold f_118
          rw [a114, if_neg (by decide), hm, Int.toNat_natCast, ← q1 53 (by decide), d4, d1]
          rfl
        · obtain ⟨x1, x2, x3⟩ := m1 s1 q
          unfold f_200
          rw [if_neg x1, if_neg x2, if_pos x3, if_pos (by omega), if_neg (by omega), if_pos (by omega), if_pos (by omega), gd_pos (by omega), hm, Int.toNat_natCast, r s1 q 120 (by decide) (by decide)]
      · -- one of them
        obtain ⟨i, hi⟩ : ∃ i : Nat, b = (i : Int) + 3 := ⟨(b - 3).toNat, by omega⟩
        have wb : ax_w32 (b - 3) = (i : Int) := by rw [w32_id (by omega) (by omega)]; omega
        have e119 := c119n hN N8 (s := s) (q1 46 (by decide)).symm (q1 51 (by decide)).symm (q1 52 (by decide)).symm mN d1 d2 (i := i) (by omega)
        refine (RES.ok (v := if i < cc then s 125 (q + i) else -1) g ?_ (fun s1 q' => ?_)).wk (fun _ => trivial)
        · unfold f_286 f_8
          rw [a114, if_neg (by decide), if_neg (by omega), if_pos (by omega), if_neg (by omega), if_neg (by omega), if_neg (by omega), if_neg (by omega), wb, hm, e119]
          rfl
        · obtain ⟨x1, x2, x3⟩ := m1 s1 q'
          unfold f_200
          rw [if_neg x1, if_neg x2, if_pos x3, if_pos (by omega), if_pos e, gd_pos (by omega), wb, hm, Int.toNat_natCast, r s1 q' 120 (by decide) (by decide), d1]
          by_cases u : i < cc
          · have w2 : ax_w32 (ax_w32 ((q : Int) + b) - 3) = ((q + i : Nat) : Int) := by rw [w32_id (z := (q : Int) + b) (by omega) (by omega), w32_id (by omega) (by omega)]; omega
            rw [if_neg (by omega), gd_pos (by omega), r s1 q' 121 (by decide) (by decide), d2, w2, gd_pos (by omega), r s1 q' 125 (by decide) (by decide), Int.toNat_natCast, if_pos u]
          · rw [if_pos (by omega), if_neg u]
    · refine (RES.no (v := 1) g (by decide) ?_ ?_).wk (fun _ => trivial)
      · unfold f_286 f_8
        rw [f114 (N := N) s h46]
        by_cases c1 : 0 ≤ a ∧ a < (N : Int)
        · rw [if_pos c1, if_neg (by decide)]
          by_cases d : b < -1
          · rw [if_pos d]; rfl
          · rw [if_neg d, if_neg (by omega)]; rfl
        · rw [if_neg c1, if_pos rfl]; rfl
      · unfold f_200
        rw [k2, if_neg (by decide), f207, h47, w32_id (z := (N : Int) - 1) (by omega) (by omega)]
        by_cases c1 : 0 ≤ a ∧ a < (N : Int)
        · rw [if_pos (show 0 ≤ a ∧ a ≤ (N : Int) - 1 by omega), if_neg (by decide), f207, if_neg (fun u => c ⟨c1, u⟩), if_neg (by decide)]; rfl
        · rw [if_neg (show ¬ (0 ≤ a ∧ a ≤ (N : Int) - 1) by omega), if_pos rfl]; rfl
/-- BITS: it comes to an end -/
theorem c75t (hT : TWF T) (hc : CC T s) (hX : TX T s sm n t) (b : Int) : ∀ (r l F : Nat) (v : Int), l + r = T.z → 1 ≤ l → ∃ q : Int, j_75_5 (F + r + 1) b v (l : Int) s = some q := by
  have h8 := hT.1
  have n8 := hX.1.2.1
  have inn : ∀ (k5 : Int → Int → Int → Sg → Option Int) (l : Nat), l < T.z → ∀ v : Int, ∃ v', j_75_67 k5 FU b v (l : Int) 0 s = k5 b v' ((l + 1 : Nat) : Int) s := fun k5 l hl v => by
    obtain ⟨i, j, a1, a2, a3, a4, a5, a6, -⟩ := hX.2.2.2 l hl
    obtain ⟨u1, u2⟩ := c82 hT hc hl
    obtain ⟨w1, w2⟩ := c80 hc hT (a := l) (by omega)
    have go : ∀ (d e F : Nat) (v : Int), i + e + d = j → ∃ v', j_75_67 k5 (F + d + 1) b v (l : Int) (e : Int) s = k5 b v' ((l + 1 : Nat) : Int) s := by
      intro d
      induction d with
      | zero =>
        intro e F v he
        refine ⟨v, ?_⟩
        rw [j_75_67, gd_pos u2, u1, a2, if_pos (by omega)]
        unfold j_75_129
        rw [w32_nat (by omega)]
      | succ d ih =>
        intro e F v he
        obtain ⟨y1, y2⟩ := hX.1.at (i + e)
        rw [show F + (d + 1) + 1 = (F + d + 1) + 1 by omega, j_75_67, gd_pos u2, u1, a2, if_neg (by omega), gd_pos w2, w1, a1, w32_add (by omega), gd_pos y2, w32_nat (by omega)]
        exact ih (e + 1) F _ (by omega)
    obtain ⟨F, hF⟩ := FU_split (k := j - i + 1) (by omega)
    rw [show FU = F + (j - i) + 1 by omega]
    exact go (j - i) 0 F v (by omega)
  intro r
  induction r with
  | zero =>
    intro l F v hl h1
    exact ⟨v, by rw [j_75_5, hc.1, if_pos (by omega)]⟩
  | succ r ih =>
    intro l F v hl h1
    obtain ⟨u1, u2⟩ := c79 hc hT (a := l) (by omega)
    obtain ⟨w1, w2⟩ := c79 hc hT (a := l - 1) (by omega)
    obtain ⟨x1, x2⟩ := c81 hc hT (a := l) (by omega)
    have el : ax_w32 ((l : Int) - 1) = ((l - 1 : Nat) : Int) := by rw [w32_id (by omega) (by omega)]; omega
    rw [show F + (r + 1) + 1 = (F + r + 1) + 1 by omega, j_75_5, hc.1, if_neg (by omega), gd_pos u2, u1]
    by_cases c1 : T.tk l = 123
    · rw [if_pos c1]
      exact ⟨v, rfl⟩
    · rw [if_neg c1, gd_pos u2]
      by_cases c2 : T.tk l = 2
      · rw [if_pos c2, el, gd_pos w2, w1]
        by_cases c3 : T.tk (l - 1) = 58
        · rw [if_neg (fun u => u c3), gd_pos x2]
          unfold j_75_129
          rw [w32_nat (by omega)]
          exact ih (l + 1) F _ (by omega) (by omega)
        · rw [if_pos c3]
          obtain ⟨v', e⟩ := inn (j_75_5 (F + r + 1)) l (by omega) v
          rw [e]
          exact ih (l + 1) F _ (by omega) (by omega)
      · rw [if_neg c2]
        unfold j_75_129
        rw [w32_nat (by omega)]
        exact ih (l + 1) F _ (by omega) (by omega)
theorem m199t (h : CKX T sc s n t S P A N K C w) (g : GOOD T sc s S A N w) (b : Int) {i p0 pc : Nat} (hi : i < S) (e98 : s 98 i = (p0 : Int)) (e99 : s 99 i = (pc : Int)) (hP : p0 + pc ≤ P) : ∀ (r l F : Nat) (v : Int), l + r = p0 + pc → p0 ≤ l → ∃ q : Int, j_199_57 (F + r + 1) (i : Int) b v (l : Int) s = some (q, s) := by
  obtain ⟨hT, hX, hC, hD, hN, h19, h31, h34, h30, wz, tw, S8, P8, A8, N8⟩ := id h
  have h8 := hT.1
  have n8 := hX.1.2.1
  have inn : ∀ (k57 : Int → Int → Int → Int → Sg → Option (Int × Sg)) (l : Nat), p0 ≤ l → l < p0 + pc → ∀ v : Int, ∃ v', j_199_78 k57 FU (i : Int) b v (l : Int) 0 s = k57 (i : Int) b v' ((l + 1 : Nat) : Int) s := fun k57 l l1 l2 v => by
    have e219 := m219 h g hi (q := l) (by rw [e98, Int.toNat_natCast]; exact l1) (by rw [e98, e99, Int.toNat_natCast, Int.toNat_natCast]; exact l2) (AG.refl s)
    have gp := (g.2.1 i hi).2.2.2.2 l (by rw [e98, Int.toNat_natCast]; exact l1) (by rw [e98, e99, Int.toNat_natCast, Int.toNat_natCast]; exact l2)
    obtain ⟨x, g1, g2, g3, g4⟩ := hD.prt (p := l) (by omega)
    obtain ⟨i1, j1, e1, e2, e3, e4, e5, e6, -⟩ := hX.nu g2 g3
    obtain ⟨W, hW, hWb, hWe⟩ : ∃ W : Nat, f_219 (l : Int) s = some (W : Int) ∧ W ≤ 8192 ∧ (s 104 l < 0 → W = j1 - i1) := by
      by_cases c : s 104 l < 0
      · refine ⟨j1 - i1, ?_, by omega, fun _ => rfl⟩
        rw [e219, if_pos c, g1, Int.toNat_natCast, e2]
        congr 1
        omega
      · have gv := gp.1 (by omega)
        rw [g1, Int.toNat_natCast] at gv
        refine ⟨(T.vl x).toNat, ?_, by omega, fun u => absurd u c⟩
        rw [e219, if_neg c, g1, Int.toNat_natCast]
        congr 1
        unfold mn
        rw [if_neg (by omega)]
        omega
    have go : ∀ (d e F : Nat) (v : Int), e + d = W → ∃ v', j_199_78 k57 (F + d + 1) (i : Int) b v (l : Int) (e : Int) s = k57 (i : Int) b v' ((l + 1 : Nat) : Int) s := by
      intro d
      induction d with
      | zero =>
        intro e F v he
        refine ⟨v, ?_⟩
        rw [j_199_78, hW, Option.bind_some, if_pos (by omega)]
        unfold j_199_157
        rw [w32_nat (by omega)]
      | succ d ih =>
        intro e F v he
        rw [show F + (d + 1) + 1 = (F + d + 1) + 1 by omega, j_199_78, hW, Option.bind_some, if_neg (by omega), gd_pos (by omega), Int.toNat_natCast]
        by_cases c : 0 ≤ s 104 l
        · rw [if_pos c]
          unfold j_199_133 j_199_134
          rw [w32_nat (by omega)]
          exact ih (e + 1) F _ (by omega)
        · rw [if_neg c]
          have := hWe (by omega)
          by_cases c1 : b = 1
          · rw [if_pos c1]
            unfold j_199_129 j_199_134
            rw [w32_nat (by omega)]
            exact ih (e + 1) F _ (by omega)
          · rw [if_neg c1, gd_pos (by omega), g1, gd_pos (by omega), Int.toNat_natCast, e3, w32_add (by omega), gd_pos (by omega)]
            unfold j_199_134
            rw [w32_nat (by omega)]
            exact ih (e + 1) F _ (by omega)
    obtain ⟨F, hF⟩ := FU_split (k := W + 1) (by omega)
    rw [show FU = F + W + 1 by omega]
    exact go W 0 F v (by omega)
  intro r
  induction r with
  | zero =>
    intro l F v hl h1
    refine ⟨v, ?_⟩
    rw [j_199_57, gd_pos (by omega), gd_pos (by omega), Int.toNat_natCast, e98, e99, w32_add (by omega), if_pos (by omega)]
  | succ r ih =>
    intro l F v hl h1
    obtain ⟨v', e⟩ := inn (j_199_57 (F + r + 1)) l h1 (by omega) v
    rw [show F + (r + 1) + 1 = (F + r + 1) + 1 by omega, j_199_57, gd_pos (by omega), gd_pos (by omega), Int.toNat_natCast, e98, e99, w32_add (by omega), if_neg (by omega), e]
    exact ih (l + 1) F v' (by omega) (by omega)
theorem bits_ (g : GIV s) : RES s (f_285 a b s) (f_199 a b) GIV False := by
  obtain ⟨-, -, -, gk, -, -⟩ := id g
  rcases gk with ⟨k1, k2, k3, k4, k5⟩ | ⟨k1, k2, kn⟩
  · refine (RES.no (v := 1) g (by decide) ?_ ?_).wk (fun u => u.elim)
    · unfold f_285 f_7
      rw [show f_181 a s = 0 from by rw [f181 (S := 0) s k3, if_neg (by omega)], if_pos rfl]
      rfl
    · unfold f_199 f_217
      rw [u2_col _ _ _ (by decide), k2, if_pos rfl, if_pos rfl]
      rfl
  · obtain ⟨T, t, n, sc, S, P, A, N, K, C, ck, gd, q1, hS, hK, h54, -⟩ := kn.ck
    obtain ⟨hT, hX, hC, hD, hN, h19, h31, h34, h30, wz, tw, S8, P8, A8, N8⟩ := id ck
    by_cases c : (0 ≤ a ∧ a < (S : Int)) ∧ (0 ≤ b ∧ b ≤ 1)
    · obtain ⟨c1, c2⟩ := c
      obtain ⟨i, hi⟩ : ∃ i : Nat, a = (i : Int) := ⟨a.toNat, by omega⟩
      have iS : i < S := by omega
      have a181 : f_181 a s = 1 := by rw [f181 (S := S) s h54, if_pos c1]
      have m217 : ∀ s1 : Sg, QF s s1 → f_217 a (ax_u2 s1 84 0 0) = 1 := fun s1 q => by rw [f217 (S := S) _ (by rw [u2_col _ _ _ (by decide), q.2 5 (by decide)]; exact k2) (by rw [u2_col _ _ _ (by decide), q.2 19 (by decide)]; exact h19) (by omega), if_pos c1]
      have gc : (f_181 a s = 0 → True) ∧ (¬ (f_181 a s = 0) → ((0 ≤ a ∧ a < 1171) ∧ True)) := ⟨fun _ => trivial, fun _ => ⟨by omega, trivial⟩⟩
      obtain ⟨hd, p0, pc, n0, b1, b2, b3, b4, b5, b6, b7, b8, b9, b10, b11⟩ := hD.1 i iS
      have e182 : f_182 a s = s 94 i := by unfold f_182; rw [a181, if_neg (by decide), hi, Int.toNat_natCast, ← q1 55 (by decide), b5]
      have e187 : f_187 a s = (hd : Int) := by unfold f_187; rw [a181, if_neg (by decide), hi, Int.toNat_natCast, ← q1 56 (by decide), b1]
      by_cases d : s 94 i = 3
      · have hcs : CC T s := hC.row (by rw [q1 39 (by decide)]) (q1 41 (by decide)).symm (q1 42 (by decide)).symm (q1 44 (by decide)).symm (by rw [q1 31 (by decide)]) (q1 1 (by decide)).symm
        have hXs : TX T s s n t := hX.cg (fun c u => (q1 c (by omega)).symm) (fun _ _ => rfl) rfl
        obtain ⟨F, hF⟩ := FU_split (k := T.z - (hd + 1) + 1) (by have := hT.1; omega)
        obtain ⟨v, ev⟩ := c75t hT hcs hXs ((if ¬ b = 0 then 0 else 1) : Int) (T.z - (hd + 1)) (hd + 1) F 0 (by omega) (by omega)
        have e75 : f_75 ((hd + 1 : Nat) : Int) ((if ¬ b = 0 then 0 else 1) : Int) s = some v := by
          unfold f_75
          rw [show FU = F + (T.z - (hd + 1)) + 1 by omega]
          exact ev
        obtain ⟨s1, hs1⟩ : ∃ z : Sg, z = ax_u2 s 136 (0 : Int).toNat v := ⟨_, rfl⟩
        have qf : QF s s1 := by rw [hs1]; exact QF.a136 s v
        have qf2 : QF s (ax_u2 s1 84 0 0) := qf.trans (QF.a84 _ 0)
        have mv : MVr sc s sc (ax_u2 s1 84 0 0) := ⟨fun _ _ _ => rfl, Iff.rfl, fun c u _ w => qf2.1 c u (by omega), fun j _ _ _ u => qf2.2 j u.2.1⟩
        have ck2 : CKX T sc (ax_u2 s1 84 0 0) n t S P A N K C 1 := by rw [CKX_mv mv]; exact ck
        have gd2 : GOOD T sc (ax_u2 s1 84 0 0) S A N 1 := by rw [GOOD_mv mv]; exact gd
        obtain ⟨F2, hF2⟩ := FU_split (k := pc + 1) (by omega)
        obtain ⟨v2, ev2⟩ := m199t ck2 gd2 b iS (by rw [qf2.1 98 (by decide) (by decide)]; exact b6) (by rw [qf2.1 99 (by decide) (by decide)]; exact b7) b8 pc p0 F2 0 (by omega) (by omega)
        refine ⟨0, v2, s1, ax_u2 s1 84 0 0, ?_, ?_, qf2.gi g, fun u => u.elim, by rw [hs1]; exact u2_row _ _ _ (by decide)⟩
        · unfold f_285 f_7
          rw [a181, if_neg (by decide), if_neg (by omega), if_pos (by omega), gd_pos (p := g_182 a s) gc, e182, if_pos d, gd_pos (p := g_187 a s) gc, e187, w32_nat (by have := hT.1; omega), e75, hs1]
          rfl
        · unfold f_199
          rw [m217 s1 qf, if_neg (by decide), f207, if_pos c2, if_pos (by decide), gd_pos (by omega), hi, Int.toNat_natCast, qf.1 94 (by decide) (by decide), if_pos d, gd_pos (by omega), qf.1 98 (by decide) (by decide), b6, show FU = F2 + pc + 1 by omega]
          exact ev2
      · refine (RES.no (v := 2) g (by decide) ?_ ?_).wk (fun u => u.elim)
        · unfold f_285 f_7
          rw [a181, if_neg (by decide), if_neg (by omega), if_pos (by omega), gd_pos (p := g_182 a s) gc, e182, if_neg d]
          rfl
        · unfold f_199
          rw [m217 s (QF.refl s), if_neg (by decide), f207, if_pos c2, if_pos (by decide), gd_pos (by omega), hi, Int.toNat_natCast, if_neg d]
          rfl
    · refine (RES.no (v := 1) g (by decide) ?_ ?_).wk (fun u => u.elim)
      · unfold f_285 f_7
        rw [f181 (S := S) s h54]
        by_cases c1 : 0 ≤ a ∧ a < (S : Int)
        · rw [if_pos c1, if_neg (by decide)]
          by_cases d : b < 0
          · rw [if_pos d]; rfl
          · rw [if_neg d, if_neg (by omega)]; rfl
        · rw [if_neg c1, if_pos rfl]; rfl
      · unfold f_199
        rw [f217 (S := S) _ (by rw [u2_col _ _ _ (by decide)]; exact k2) (by rw [u2_col _ _ _ (by decide)]; exact h19) (by omega)]
        by_cases c1 : 0 ≤ a ∧ a < (S : Int)
        · rw [if_pos c1, if_neg (by decide), f207, if_neg (fun u => c ⟨c1, u⟩), if_neg (by decide)]; rfl
        · rw [if_neg c1, if_pos rfl]; rfl
end NOB
/-! COUNT: both sides tell the same (for p13). -/
section CNT
variable {s : Sg} {a : Int}
theorem count13 (g : GIV s) : (f_205 a s).1 = f_1 a s ∧ GIV (f_205 a s).2 := by
  obtain ⟨-, ⟨n, t1, -, t3, -⟩, ⟨L, l1, -, l3, -⟩, gk, -, -⟩ := id g
  have q : ∀ v : Int, GIV (v, ax_u2 s 84 0 0).2 := fun v => (QF.a84 s 0).gi g
  have e : ∃ z S N : Int, s 39 9 = z ∧ s 54 6 = S ∧ s 46 7 = N ∧ ((s 84 5 = 0 ∧ z = 0 ∧ S = 0 ∧ N = 0) ∨ (s 84 5 = 1 ∧ s 84 11 = z ∧ s 84 19 = S ∧ s 84 47 = N)) := by
    rcases gk with ⟨k1, k2, k3, k4, k5⟩ | ⟨k1, k2, kn⟩
    · exact ⟨0, 0, 0, k5, k3, k4, Or.inl ⟨k2, rfl, rfl, rfl⟩⟩
    · obtain ⟨T, t, n, sc, S, P, A, N, K, C, ck, gd, q1, hS, hK, h54, -⟩ := kn.ck
      obtain ⟨hT, hX, hC, hD, hN, h19, -⟩ := id ck
      obtain ⟨T', n', t', hp⟩ := kn.pri
      obtain ⟨-, -, -, -, c5, c6, -⟩ := hp
      refine ⟨s 39 9, s 54 6, s 46 7, rfl, rfl, rfl, Or.inr ⟨k2, by rw [c6.1, c5.1], by rw [h19, h54], ?_⟩⟩
      rw [hN.2.1, ← q1 46 (by decide), hN.1]
  obtain ⟨z, S, N, e1, e2, e3, e4⟩ := e
  unfold f_205 f_1
  rw [f207]
  by_cases c : 0 ≤ a ∧ a ≤ 4
  · rw [if_pos c, if_pos (by decide)]
    have cas : a = 0 ∨ a = 1 ∨ a = 2 ∨ a = 3 ∨ a = 4 := by omega
    rcases cas with u | u | u | u | u <;> subst u
    · exact ⟨t3.trans t1.symm, q _⟩
    · rcases e4 with ⟨k, z0, s0, n0⟩ | ⟨k, k11, k19, k47⟩
      · rw [k]
        exact ⟨show (0 : Int) = s 39 9 by rw [e1, z0], q _⟩
      · rw [k]
        exact ⟨show s 84 11 = s 39 9 by rw [e1, k11], q _⟩
    · rcases e4 with ⟨k, z0, s0, n0⟩ | ⟨k, k11, k19, k47⟩
      · rw [k]
        exact ⟨show (0 : Int) = s 54 6 by rw [e2, s0], q _⟩
      · rw [k]
        exact ⟨show s 84 19 = s 54 6 by rw [e2, k19], q _⟩
    · rcases e4 with ⟨k, z0, s0, n0⟩ | ⟨k, k11, k19, k47⟩
      · rw [k]
        exact ⟨show (0 : Int) = s 46 7 by rw [e3, n0], q _⟩
      · rw [k]
        exact ⟨show s 84 47 = s 46 7 by rw [e3, k47], q _⟩
    · exact ⟨show s 84 9 = s 82 2 by rw [l1, l3], q _⟩
  · rw [if_neg c, if_neg (by decide), if_neg (show ¬ a = 0 by omega), if_neg (show ¬ a = 1 by omega), if_neg (show ¬ a = 2 by omega), if_neg (show ¬ a = 3 by omega), if_neg (show ¬ a = 4 by omega)]
    exact ⟨rfl, q _⟩
end CNT
/-! THE LAW'S LOOP. -/
section LOP
variable {s : Sg} {L : Nat}
theorem count_ (g : GIV s) (a : Int) : GIV (f_205 a s).2 := by
  have q : ∀ v : Int, GIV (v, ax_u2 s 84 0 0).2 := fun v => (QF.a84 s 0).gi g
  unfold f_205
  split
  · split
    · split
      · split
        · split
          · split
            · exact q _
            · exact q _
          · exact q _
        · exact q _
      · exact q _
    · exact q _
  · exact q _
theorem lop (hL : L ≤ 2560) : ∀ (r l F : Nat) (s : Sg), L < l + 5 * r + 5 → GIV s → j_279_23 L (F + r + 1) (l : Int) s = some 1 := by
  have w5 : ax_w32 ((L : Int) - 5) = (L : Int) - 5 := w32_id (by omega) (by omega)
  intro r
  induction r with
  | zero =>
    intro l F s hl g
    rw [j_279_23, if_pos (by rw [w5]; omega)]
  | succ r ih =>
    intro l F s hl g
    rw [show F + (r + 1) + 1 = (F + r + 1) + 1 by omega, j_279_23]
    by_cases c : ax_w32 ((L : Int) - 5) < (l : Int)
    · rw [if_pos c]
    · rw [w5] at c
      have wk : ∀ k : Int, 0 ≤ k → k ≤ 5 → ax_w32 ((l : Int) + k) = (l : Int) + k := fun k a b => w32_id (by omega) (by omega)
      have nx : ∀ s2 : Sg, GIV s2 → j_279_469 L (j_279_23 L (F + r + 1)) (l : Int) s2 = some 1 := fun s2 g2 => by
        unfold j_279_469
        rw [wk 5 (by decide) (by decide)]
        have := ih (l + 5) F s2 (by omega) g2
        rw [show ((l + 5 : Nat) : Int) = (l : Int) + 5 by omega] at this
        exact this
      rw [w5, if_neg c, gd_pos (by omega)]
      simp only [wk 1 (by decide) (by decide), wk 2 (by decide) (by decide), wk 3 (by decide) (by decide), wk 4 (by decide) (by decide), gd_pos (show 0 ≤ (l : Int) + 1 ∧ (l : Int) + 1 < (L : Int) by omega), gd_pos (show 0 ≤ (l : Int) + 2 ∧ (l : Int) + 2 < (L : Int) by omega), gd_pos (show 0 ≤ (l : Int) + 3 ∧ (l : Int) + 3 < (L : Int) by omega), gd_pos (show 0 ≤ (l : Int) + 4 ∧ (l : Int) + 4 < (L : Int) by omega)]
      have dn : ∀ {E : Prop} {rc : Option (Int × Sg)} {rm : Sg → Option (Int × Sg)} (K : Int → Sg → Option Int), RES s rc rm GIV E → (∀ t0 s1, s1 0 = s 0 → K t0 s1 = (rm s1).bind fun q => j_279_469 L (j_279_23 L (F + r + 1)) (l : Int) q.2) → (rc.bind fun q => K q.1 q.2) = some 1 := fun {E} {rc} {rm} K h hK => by
        obtain ⟨t0, v, s1, s2, h1, h2, h3, -, h5⟩ := h
        rw [h1, Option.bind_some, hK t0 s1 h5, h2, Option.bind_some]
        exact nx s2 h3
      have g1 : ∀ o : Option Int, gd (0 ≤ (l : Int) + 1 ∧ (l : Int) + 1 < (L : Int)) o = o := fun o => gd_pos (by omega)
      have w1 := wk 1 (by decide) (by decide)
      have w2 := wk 2 (by decide) (by decide)
      have w3 := wk 3 (by decide) (by decide)
      have w4 := wk 4 (by decide) (by decide)
      have g2 : ∀ o : Option Int, gd (0 ≤ (l : Int) + 2 ∧ (l : Int) + 2 < (L : Int)) o = o := fun o => gd_pos (by omega)
      have g3 : ∀ o : Option Int, gd (0 ≤ (l : Int) + 3 ∧ (l : Int) + 3 < (L : Int)) o = o := fun o => gd_pos (by omega)
      have g4 : ∀ o : Option Int, gd (0 ≤ (l : Int) + 4 ∧ (l : Int) + 4 < (L : Int)) o = o := fun o => gd_pos (by omega)
      by_cases c0 : ax_iand (s 0 (l : Int).toNat) 15 = 0
      · rw [if_pos c0]
        refine dn (fun t0 s1 => j_279_129 L (j_279_23 L (F + r + 1)) (l : Int) t0 s1) (feed g) (fun t0 s1 h5 => ?_)
        unfold j_279_129
        rw [w1, w2, w3, w4, g1, g2, g3, g4, h5]
      rw [if_neg c0]
      by_cases c1 : ax_iand (s 0 (l : Int).toNat) 15 = 1
      · rw [if_pos c1]
        refine dn (fun t0 s1 => j_279_175 L (j_279_23 L (F + r + 1)) (l : Int) t0 s1) (end_ g) (fun t0 s1 h5 => ?_)
        unfold j_279_175
        rw [w1, g1, h5]
      rw [if_neg c1]
      by_cases c2 : ax_iand (s 0 (l : Int).toNat) 15 = 2
      · rw [if_pos c2]
        exact dn (fun t0 s1 => j_279_197 L (j_279_23 L (F + r + 1)) (l : Int) t0 s1) (read_ g) (fun t0 s1 h5 => rfl)
      rw [if_neg c2]
      by_cases c3 : ax_iand (s 0 (l : Int).toNat) 15 = 3
      · rw [if_pos c3]
        refine dn (fun t0 s1 => j_279_219 L (j_279_23 L (F + r + 1)) (l : Int) t0 s1) (fault_ g) (fun t0 s1 h5 => ?_)
        unfold j_279_219
        rw [w1, g1, h5]
      rw [if_neg c3]
      by_cases c4 : ax_iand (s 0 (l : Int).toNat) 15 = 4
      · rw [if_pos c4]
        refine dn (fun t0 s1 => j_279_253 L (j_279_23 L (F + r + 1)) (l : Int) t0 s1) (statement_ g) (fun t0 s1 h5 => ?_)
        unfold j_279_253
        rw [w1, w2, g1, g2, h5]
      rw [if_neg c4]
      by_cases c5 : ax_iand (s 0 (l : Int).toNat) 15 = 5
      · rw [if_pos c5]
        refine dn (fun t0 s1 => j_279_293 L (j_279_23 L (F + r + 1)) (l : Int) t0 s1) (bits_ g) (fun t0 s1 h5 => ?_)
        unfold j_279_293
        rw [w1, w2, g1, g2, h5]
      rw [if_neg c5]
      by_cases c6 : ax_iand (s 0 (l : Int).toNat) 15 = 6
      · rw [if_pos c6]
        refine dn (fun t0 s1 => j_279_333 L (j_279_23 L (F + r + 1)) (l : Int) t0 s1) (node_ g) (fun t0 s1 h5 => ?_)
        unfold j_279_333
        rw [w1, w2, g1, g2, h5]
      rw [if_neg c6]
      by_cases c7 : ax_iand (s 0 (l : Int).toNat) 15 = 7
      · rw [if_pos c7]
        refine dn (fun t0 s1 => j_279_367 L (j_279_23 L (F + r + 1)) (l : Int) t0 s1) (ring_ g) (fun t0 s1 h5 => ?_)
        unfold j_279_367
        rw [w1, g1, h5]
      rw [if_neg c7]
      by_cases c8 : ax_iand (s 0 (l : Int).toNat) 15 = 8
      · rw [if_pos c8]
        exact dn (fun t0 s1 => j_279_389 L (j_279_23 L (F + r + 1)) (l : Int) t0 s1) (print_ g) (fun t0 s1 h5 => rfl)
      rw [if_neg c8]
      by_cases c9 : ax_iand (s 0 (l : Int).toNat) 15 = 9
      · rw [if_pos c9]
        refine dn (fun t0 s1 => j_279_411 L (j_279_23 L (F + r + 1)) (l : Int) t0 s1) (out_ g) (fun t0 s1 h5 => ?_)
        unfold j_279_411
        rw [w1, g1, h5]
      rw [if_neg c9]
      by_cases c10 : ax_iand (s 0 (l : Int).toNat) 15 = 10
      · rw [if_pos c10]
        exact dn (fun t0 s1 => j_279_433 L (j_279_23 L (F + r + 1)) (l : Int) t0 s1) (again_ g) (fun t0 s1 h5 => rfl)
      rw [if_neg c10]
      by_cases c11 : ax_iand (s 0 (l : Int).toNat) 15 = 11
      · obtain ⟨d1, d2⟩ := count13 (a := s 0 ((l : Int) + 1).toNat) g
        rw [if_pos c11, Option.bind_some, if_pos d1.symm]
        exact nx _ d2
      rw [if_neg c11]
      exact nx s g
end LOP
