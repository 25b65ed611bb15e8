/-! CALLS: end, read, print, out, again. -/
section CAL
variable {s s' sc sm x y : Sg} {T : TT} {n : Nat} {t : Nat → Int} {a : Int}
theorem f207 (x lo hi : Int) (s : Sg) : f_207 x lo hi s = if lo ≤ x ∧ x ≤ hi then 1 else 0 := by
  unfold f_207
  by_cases c1 : x < lo
  · rw [if_pos (by rw [cmp_lt]; exact c1), if_neg (by omega)]
  · rw [if_neg (by rw [cmp_lt]; exact c1)]
    by_cases c2 : hi < x
    · rw [if_pos (by rw [cmp_gt]; exact c2), if_neg (by omega)]
    · rw [if_neg (by rw [cmp_gt]; exact c2), if_pos (by omega)]
/-- END -/
theorem end_ (g : GIV s) : RES s (f_281 a s) (f_195 a) GIV True := by
  obtain ⟨g1, ⟨n, t1, t2, t3, t4⟩, g3, g4, g5, g6⟩ := id g
  by_cases c : 0 ≤ a ∧ a ≤ 16
  · by_cases d : 16 ≤ n
    · obtain ⟨m, hm⟩ : ∃ m : Nat, (n : Int) - (16 - a) = (m : Int) := ⟨((n : Int) - (16 - a)).toNat, by omega⟩
      have w : ax_w32 ((n : Int) - ax_w32 (16 - a)) = (m : Int) := by rw [w32_id (z := 16 - a) (by omega) (by omega), w32_id (by omega) (by omega)]; exact hm
      refine ⟨0, (m : Int), ax_u2 (ax_u2 s 27 1 (m : Int)) 136 (0 : Int).toNat (m : Int), ax_u2 (ax_u2 (ax_u2 (ax_u2 s 27 1 (m : Int)) 136 (0 : Int).toNat (m : Int)) 84 0 0) 84 1 (m : Int), ?_, ?_, ?_, fun _ => ⟨?_, fun _ => ?_⟩, by rw [u2_row _ _ _ (by decide), u2_row _ _ _ (by decide)]⟩
      · unfold f_281 f_3
        rw [if_neg (by omega), if_pos c.2, t1, if_pos (by omega), w]
        rfl
      · unfold f_195
        rw [f207, if_pos c, if_pos (by decide), u2_row _ _ _ (show (84 : Nat) ≠ 136 by decide), u2_row _ _ _ (show (84 : Nat) ≠ 27 by decide), t3, if_pos (by omega), w]
      · have r : ∀ q, q ≠ 27 → q ≠ 84 → q ≠ 136 → ax_u2 (ax_u2 (ax_u2 (ax_u2 s 27 1 (m : Int)) 136 (0 : Int).toNat (m : Int)) 84 0 0) 84 1 (m : Int) q = s q := fun q u1 u2 u3 => by rw [u2_row _ _ _ u2, u2_row _ _ _ u2, u2_row _ _ _ u3, u2_row _ _ _ u1]
        have r84 : ∀ j, j ≠ 0 → j ≠ 1 → ax_u2 (ax_u2 (ax_u2 (ax_u2 s 27 1 (m : Int)) 136 (0 : Int).toNat (m : Int)) 84 0 0) 84 1 (m : Int) 84 j = s 84 j := fun j u v => by rw [u2_col _ _ _ v, u2_col _ _ _ u, u2_row _ _ _ (by decide), u2_row _ _ _ (by decide)]
        have r27 : ∀ j, ax_u2 (ax_u2 (ax_u2 (ax_u2 s 27 1 (m : Int)) 136 (0 : Int).toNat (m : Int)) 84 0 0) 84 1 (m : Int) 27 j = if j = 1 then (m : Int) else s 27 j := fun j => by rw [u2_row _ _ _ (by decide), u2_row _ _ _ (by decide), u2_row _ _ _ (by decide), u2_at]
        refine ⟨g1.cg (fun q u => r q (by omega) (by omega) (by omega)), ⟨m, by rw [r27, if_pos rfl], by omega, by rw [u2_at, if_pos rfl], fun i hi => ?_⟩, g3.cg (by rw [r 82 (by decide) (by decide) (by decide)]) (r 83 (by decide) (by decide) (by decide)) (r84 9 (by decide) (by decide)) (r 87 (by decide) (by decide) (by decide)), g4.cg (by rw [r27, if_neg (by decide)]) (r84 5 (by decide) (by decide)) (fun q u => r q (by omega) (by omega) (by omega)) (fun q u => r q (by omega) (by omega) (by omega)) (fun j u1 u2 _ _ => r84 j u1 u2), ?_, ?_⟩
        · rw [r 28 (by decide) (by decide) (by decide), r 85 (by decide) (by decide) (by decide)]
          exact t4 i (by omega)
        · unfold RB at *
          rw [r 74 (by decide) (by decide) (by decide)]; exact g5
        · unfold RM at *
          rw [r84 72 (by decide) (by decide)]; exact g6
      · rw [u2_col _ _ _ (by decide), u2_at, if_pos rfl]
      · rw [u2_row _ _ _ (by decide), u2_row _ _ _ (by decide), show (0 : Int).toNat = 0 from rfl, u2_at, if_pos rfl]
    · refine ⟨2, 0, s, ax_u2 (ax_u2 s 84 0 0) 84 0 2, ?_, ?_, ((QF.a84 s 0).trans (QF.a84 _ 2)).gi g, fun _ => ⟨by rw [u2_at, if_pos rfl], fun u => absurd u (by decide)⟩, rfl⟩
      · unfold f_281 f_3
        rw [if_neg (by omega), if_pos c.2, t1, if_neg (by omega)]
        rfl
      · unfold f_195
        rw [f207, if_pos c, if_pos (by decide), t3, if_neg (by omega)]
        rfl
  · refine ⟨1, 0, s, ax_u2 (ax_u2 s 84 0 0) 84 0 1, ?_, ?_, ((QF.a84 s 0).trans (QF.a84 _ 1)).gi g, fun _ => ⟨by rw [u2_at, if_pos rfl], fun u => absurd u (by decide)⟩, rfl⟩
    · unfold f_281 f_3
      by_cases d : a < 0
      · rw [if_pos d]
        rfl
      · rw [if_neg d, if_neg (by omega)]
        rfl
    · unfold f_195
      rw [f207, if_neg c, if_neg (by decide)]
      rfl
/-- READ -/
theorem read_ (g : GIV s) : RES s (f_282 s) f_196 GIV True := by
  obtain ⟨g1, ⟨n, t1, t2, t3, t4⟩, ⟨L, l1, l2, l3, l4⟩, -, -, -⟩ := id g
  have key : ∀ s1 : Sg, (∀ c, c = 84 ∨ c = 85 → s1 c = s c) → _ := fun s1 h1 => read_sim (sc := s) (sm := s1) g1 t1 t2 (by rw [h1 84 (by decide)]; exact t3) (by rw [h1 85 (by decide)]; exact t4)
  rcases key s (fun _ _ => rfl) with ⟨-, -, -, -, -, -, x, -, S, -, -, -, -, -, e1, -, -, -, -, -, -, -, -, fc, -⟩ | ⟨x, -, e1, -, -, -, fc, -⟩
  · -- nothing wrong
    obtain ⟨s1, hs1⟩ : ∃ z : Sg, z = ax_u2 (ax_u2 (ax_u2 x 27 1 0) 27 2 1) 136 (0 : Int).toNat (S : Int) := ⟨_, rfl⟩
    have q1 : ∀ c, c ≠ 27 → c ≠ 136 → s1 c = x c := fun c u v => by rw [hs1, u2_row _ _ _ v, u2_row _ _ _ u, u2_row _ _ _ u]
    rcases key s1 (fun c u => by rw [q1 c (by omega) (by omega), fc.1 c (by omega)]) with ⟨T, t, sc0, sm0, sc1, sm1, x', y, S', P, A, N, K, C, e2, e3, b1, b2, b3, b4, b5, b6, b7, fc', fm, b8, -⟩ | ⟨x', y', e2, e3, e4, e5, e6, e7⟩
    · rw [e1] at e2
      have ee := Sum.inl.inj (Option.some.inj e2)
      have eS : S' = S := by
        have := congrArg Prod.fst ee
        simp only at this
        omega
      have eX : ax_u2 (ax_u2 x 27 1 0) 27 2 1 = ax_u2 (ax_u2 x' 27 1 0) 27 2 1 := congrArg Prod.snd ee
      have q2 : ∀ c, c ≠ 27 → c ≠ 136 → s1 c = x' c := fun c u v => by rw [hs1, u2_row _ _ _ v, eX, u2_row _ _ _ u, u2_row _ _ _ u]
      obtain ⟨m1, m2, m3, m4, m5, m6⟩ := fm
      have w : ∀ c, c < 84 → c ≠ 27 → ax_u2 y 84 5 1 c = x' c := fun c u v => by rw [u2_row _ _ _ (by omega), m1 c (Or.inl u), q2 c v (by omega)]
      have wo : ∀ c, c = 82 ∨ c = 83 ∨ c = 85 ∨ c = 87 → ax_u2 y 84 5 1 c = s c := fun c u => by rw [u2_row _ _ _ (by omega), m1 c (by omega), q2 c (by omega) (by omega), fc'.1 c (by omega)]
      have w84 : ∀ j, j ≠ 5 → ax_u2 y 84 5 1 84 j = y 84 j := fun j u => u2_col _ _ _ u
      have w27 : ∀ j, ax_u2 y 84 5 1 27 j = s1 27 j := fun j => by rw [u2_row _ _ _ (by decide), m1 27 (by decide)]
      have v27 : s1 27 1 = 0 ∧ s1 27 2 = 1 := by rw [hs1]; simp [ax_u2]
      have p9 : y 84 9 = s 84 9 := by rw [m5 9 (by decide), q2 84 (by decide) (by decide), fc'.1 84 (by decide)]
      refine ⟨0, (S : Int), s1, ax_u2 y 84 5 1, ?_, by rw [← eS]; exact e3, ?_, fun _ => ⟨by rw [w84 0 (by decide)]; exact m2, fun _ => ?_⟩, by rw [q2 0 (by decide) (by decide), fc'.1 0 (by decide)]⟩
      · unfold f_282
        rw [e1, hs1]
        rfl
      · refine ⟨b7.cg (fun c u => w c (by omega) (by omega)), ⟨0, by rw [w27]; exact v27.1, by omega, by rw [w84 1 (by decide)]; exact m3, fun i hi => absurd hi (by omega)⟩, ⟨L, by rw [wo 82 (by decide)]; exact l1, l2, by rw [w84 9 (by decide), p9]; exact l3, by rw [wo 83 (by decide), wo 87 (by decide)]; exact l4⟩, Or.inr ⟨by rw [w27]; exact v27.2, by rw [u2_at, if_pos rfl], T, t, n, sc0, sm0, sc1, sm1, x', y, S', P, A, N, K, C, b1, b2, b3, b8, b4, b5, b6, fun c u => w c (by omega) (by omega), fun c u => u2_row _ _ _ (by omega), fun j _ _ u _ => w84 j u⟩, ?_, ?_⟩
        · unfold RB
          rw [w 74 (by decide) (by decide)]
          exact fc'.2
        · unfold RM
          rw [w84 72 (by decide)]
          exact m6
      · rw [u2_row _ _ _ (by decide), m1 136 (by decide), hs1, show (0 : Int).toNat = 0 from rfl, u2_at, if_pos rfl]
    · rw [e1] at e2
      cases e2
  · -- a fault
    obtain ⟨s1, hs1⟩ : ∃ z : Sg, z = f_180 (f_113 (f_74 (ax_u2 (ax_u2 x 27 1 0) 27 2 0))) := ⟨_, rfl⟩
    have fr : ∀ (x : Sg) (c : Nat), c ≠ 27 → c ≠ 39 → c ≠ 46 → c ≠ 54 → f_180 (f_113 (f_74 (ax_u2 (ax_u2 x 27 1 0) 27 2 0))) c = x c := fun x c u1 u2 u3 u4 => by
      unfold f_180 f_113 f_74
      rw [u2_row _ _ _ u4, u2_row _ _ _ u4, u2_row _ _ _ u3, u2_row _ _ _ u2, u2_row _ _ _ u2, u2_row _ _ _ u2, u2_row _ _ _ u1, u2_row _ _ _ u1]
    rcases key s1 (fun c u => by rw [hs1, fr x c (by omega) (by omega) (by omega) (by omega), fc.1 c (by omega)]) with ⟨z1, z2, z3, z4, z5, z6, x', z7, z8, z9, z10, z11, z12, z13, e2, z14⟩ | ⟨x', y, e2, e3, b6, b7, fc', fm⟩
    · rw [e1] at e2
      cases e2
    · rw [e1] at e2
      have eX : f_180 (f_113 (f_74 (ax_u2 (ax_u2 x 27 1 0) 27 2 0))) = f_180 (f_113 (f_74 (ax_u2 (ax_u2 x' 27 1 0) 27 2 0))) := congrArg Prod.snd (Sum.inr.inj (Option.some.inj e2))
      have q2 : ∀ c, c ≠ 27 → c ≠ 39 → c ≠ 46 → c ≠ 54 → s1 c = x' c := fun c u1 u2 u3 u4 => by rw [hs1, eX, fr x' c u1 u2 u3 u4]
      obtain ⟨m1, m2, m3, m4, m5, m6⟩ := fm
      have w : ∀ c, c < 84 → ax_u2 y 84 0 1 c = s1 c := fun c u => by rw [u2_row _ _ _ (by omega), m1 c (Or.inl u)]
      have wo : ∀ c, c = 82 ∨ c = 83 ∨ c = 85 ∨ c = 87 → ax_u2 y 84 0 1 c = s c := fun c u => by rw [u2_row _ _ _ (by omega), m1 c (by omega), q2 c (by omega) (by omega) (by omega) (by omega), fc'.1 c (by omega)]
      have w84 : ∀ j, j ≠ 0 → ax_u2 y 84 0 1 84 j = y 84 j := fun j u => u2_col _ _ _ u
      have v27 : s1 27 1 = 0 ∧ s1 27 2 = 0 ∧ s1 54 6 = 0 ∧ s1 46 7 = 0 ∧ s1 39 9 = 0 := by rw [hs1]; simp [f_180, f_113, f_74, ax_u2]
      have p9 : y 84 9 = s 84 9 := by rw [m5 9 (by decide), q2 84 (by decide) (by decide) (by decide) (by decide), fc'.1 84 (by decide)]
      refine ⟨1, 0, s1, ax_u2 y 84 0 1, ?_, e3, ?_, fun _ => ⟨by rw [u2_at, if_pos rfl], fun u => absurd u (by decide)⟩, by rw [q2 0 (by decide) (by decide) (by decide) (by decide), fc'.1 0 (by decide)]⟩
      · unfold f_282
        rw [e1, hs1]
        rfl
      · refine ⟨b7.cg (fun c u => by rw [w c (by omega), q2 c (by omega) (by omega) (by omega) (by omega)]), ⟨0, by rw [w 27 (by decide)]; exact v27.1, by omega, by rw [w84 1 (by decide)]; exact m3, fun i hi => absurd hi (by omega)⟩, ⟨L, by rw [wo 82 (by decide)]; exact l1, l2, by rw [w84 9 (by decide), p9]; exact l3, by rw [wo 83 (by decide), wo 87 (by decide)]; exact l4⟩, Or.inl ⟨by rw [w 27 (by decide)]; exact v27.2.1, by rw [w84 5 (by decide)]; exact m4, by rw [w 54 (by decide)]; exact v27.2.2.1, by rw [w 46 (by decide)]; exact v27.2.2.2.1, by rw [w 39 (by decide)]; exact v27.2.2.2.2⟩, ?_, ?_⟩
        · unfold RB
          rw [w 74 (by decide), q2 74 (by decide) (by decide) (by decide) (by decide)]
          exact fc'.2
        · unfold RM
          rw [w84 72 (by decide)]
          exact m6
/-- what was read stands there still -/
theorem TX.cg (h : TX T sc sm n t) (h1 : ∀ c, c = 31 ∨ c = 32 ∨ c = 33 ∨ c = 34 ∨ c = 35 ∨ c = 39 ∨ c = 40 ∨ c = 43 → x c = sc c) (h2 : ∀ c, c = 86 ∨ c = 89 ∨ c = 90 → y c = sm c) (h3 : y 84 3 = sm 84 3) : TX T x y n t := by
  unfold TX CT MT NI LXn at *
  rw [h1 31 (by decide), h1 32 (by decide), h1 33 (by decide), h1 34 (by decide), h1 35 (by decide), h1 39 (by decide), h1 40 (by decide), h1 43 (by decide), h2 86 (by decide), h2 89 (by decide), h2 90 (by decide), h3]
  exact h
/-- what a state holds of a text that was read: rows are those of the checks' end -/
theorem kn_rows {sc1 sm1 : Sg} {N : Nat} (cho : CHO sc1 sm1 x y N) (a8 : ∀ c, c = 1 ∨ 30 ≤ c ∧ c ≤ 81 → s c = x c) (a9 : ∀ c, c = 86 ∨ 88 ≤ c ∧ c ≤ 135 → s c = y c) (a10 : ∀ j, j ≠ 0 → j ≠ 1 → j ≠ 5 → j ≠ 9 → s 84 j = y 84 j) :
    (∀ c, c = 1 ∨ 31 ≤ c ∧ c < 74 → c ≠ 48 → s c = sc1 c) ∧ (∀ c, c = 86 ∨ 88 ≤ c ∧ c < 133 → c ≠ 122 → s c = sm1 c) ∧ (∀ j, j ≠ 0 → j ≠ 1 → j ≠ 5 → j ≠ 6 → j ≠ 7 → j ≠ 8 → j ≠ 9 → j ≠ 72 → s 84 j = sm1 84 j) := by
  obtain ⟨o1, o2, o3, o4, -⟩ := cho
  exact ⟨fun c u v => by rw [a8 c (by omega), o1 c (by omega) v (by omega)], fun c u v => by rw [a9 c (by omega), o3 c (by omega) v (by omega)], fun j u0 u1 u5 u6 u7 u8 u9 u72 => by rw [a10 j u0 u1 u5 u9, o4 j u6 u7 u8 u72]⟩
theorem KN.pri (h : KN s) : ∃ (T : TT) (n : Nat) (t : Nat → Int), PRI T s s n t := by
  obtain ⟨T, t, n, sc0, sm0, sc1, sm1, x, y, S, P, A, N, K, C, a1, a2, a3, a4, a5, a6, a7, a8, a9, a10⟩ := h
  obtain ⟨r1, r2, r3⟩ := kn_rows a6 a8 a9 a10
  obtain ⟨hB, h70, h19, h7, h37, hnc, htl, hdp⟩ := a5
  obtain ⟨e1, e2, e3, e4, e5, e6, e7, e8, e9, e10, e11, e12, e13, e14, e15, e16, e17, e18, e19, e20, e21, e22, e23, e24, e25, e26, e27, e28, e29, e30, e31⟩ := hB
  have tx1 := a3.sf e15 e16
  have z3 : 3 ≤ T.z := e27
  refine ⟨T, n, t, a1, a2, fun k hk => ?_, tx1.cg (fun c u => r1 c (by omega) (by omega)) (fun c u => r2 c (by omega) (by omega)) (r3 3 (by decide) (by decide) (by decide) (by decide) (by decide) (by decide) (by decide) (by decide)), e1.row (by rw [r1 39 (by decide) (by decide)]) (r1 41 (by decide) (by decide)) (r1 42 (by decide) (by decide)) (r1 44 (by decide) (by decide)) (by rw [r1 31 (by decide) (by decide)]) (r1 1 (by decide) (by decide)), ?_, fun k hk => ?_, fun k u v => e19 k u v, fun k hk => e20 k hk, by omega, htl, hdp⟩
  · rw [r1 43 (by decide) (by decide), e15.1 43 (by decide)]
    exact a4 k hk
  · unfold MC at *
    rw [r3 11 (by decide) (by decide) (by decide) (by decide) (by decide) (by decide) (by decide) (by decide), r2 88 (by decide) (by decide)]
    exact e2
  · have := e9 k hk
    unfold LF at *
    rw [r1 45 (by decide) (by decide), r2 91 (by decide) (by decide), r2 92 (by decide) (by decide), r2 93 (by decide) (by decide)]
    exact this
theorem PRI.cg (h : PRI T s s n t) (h1 : ∀ c, c = 86 ∨ 88 ≤ c ∧ c ≤ 93 → y c = s c) (h3 : ∀ j, j = 3 ∨ j = 11 → y 84 j = s 84 j) : PRI T s y n t := by
  obtain ⟨a1, a2, a3, a4, a5, a6, a7, a8⟩ := h
  refine ⟨a1, a2, a3, a4.cg (fun _ _ => rfl) (fun c u => h1 c (by omega)) (h3 3 (by decide)), a5, ?_, fun k hk => ?_, a8⟩
  · unfold MC at *
    rw [h3 11 (by decide), h1 88 (by decide)]
    exact a6
  · have := a7 k hk
    unfold LF at *
    rw [h1 91 (by decide), h1 92 (by decide), h1 93 (by decide)]
    exact this
theorem byl_getD : ∀ (B : List Int) (i : Nat), i < B.length → byl B → 0 ≤ B.getD i 0 ∧ B.getD i 0 < 256 := by
  intro B
  induction B with
  | nil => intro i hi _; exact absurd hi (by simp)
  | cons b B ih =>
    intro i hi h
    rw [List.length_cons] at hi
    cases i with
    | zero => exact h b List.mem_cons_self
    | succ i => exact ih i (by omega) (fun c hc => h c (List.mem_cons_of_mem _ hc))
/-- PRINT -/
theorem print_ (g : GIV s) : RES s (f_288 s) f_202 GIV True := by
  obtain ⟨g1, g2, g3, g4, g5, g6⟩ := id g
  rcases g4 with ⟨k1, k2, -⟩ | ⟨k1, k2, kn⟩
  · refine ⟨1, 0, s, ax_u2 (ax_u2 s 84 0 0) 84 0 1, ?_, ?_, ((QF.a84 s 0).trans (QF.a84 _ 1)).gi g, fun _ => ⟨by rw [u2_at, if_pos rfl], fun u => absurd u (by decide)⟩, rfl⟩
    · unfold f_288 f_10
      rw [k1, if_neg (by decide)]
      rfl
    · unfold f_202
      rw [k2, if_neg (by decide)]
      rfl
  · obtain ⟨T, n, t, hp⟩ := kn.pri
    obtain ⟨R0, p1, -⟩ := print_sim hp
    obtain ⟨s1, hs1⟩ : ∃ z : Sg, z = ax_u2 (cwr (ax_u2 s 82 2 0) R0) 136 (0 : Int).toNat (cwr (ax_u2 s 82 2 0) R0 82 2) := ⟨_, rfl⟩
    have q1 : ∀ c, c ≠ 82 → c ≠ 83 → c ≠ 136 → s1 c = s c := fun c u v w => by rw [hs1, u2_row _ _ _ w, cwr_row u v, u2_row _ _ _ u]
    obtain ⟨R, p2, p3, p4, p5⟩ := print_sim (hp.cg (y := s1) (fun c u => q1 c (by omega) (by omega) (by omega)) (fun j _ => by rw [q1 84 (by decide) (by decide) (by decide)]))
    rw [p1] at p2
    have eR : cwr (ax_u2 s 82 2 0) R0 = cwr (ax_u2 s 82 2 0) R := Option.some.inj p2
    have z0 : (ax_u2 s 82 2 0) 82 2 = 0 := by rw [u2_at, if_pos rfl]
    have len := cwr_len R (ax_u2 s 82 2 0) (by rw [z0]; decide) (by rw [z0]; omega)
    rw [z0, Int.zero_add] at len
    obtain ⟨-, at1⟩ := cwr_at R (ax_u2 s 82 2 0) 0 z0 (by omega)
    have y0 : (ax_u2 (ax_u2 s1 84 0 0) 84 9 0) 84 9 = 0 := by rw [u2_at, if_pos rfl]
    have mlen := mwr_len R (ax_u2 (ax_u2 s1 84 0 0) 84 9 0) (by rw [y0]; decide) (by rw [y0]; omega)
    rw [y0, Int.zero_add] at mlen
    obtain ⟨-, at2⟩ := mwr_at R (ax_u2 (ax_u2 s1 84 0 0) 84 9 0) 0 y0 (by omega)
    obtain ⟨s2, hs2⟩ : ∃ z : Sg, z = mwr (ax_u2 (ax_u2 s1 84 0 0) 84 9 0) R := ⟨_, rfl⟩
    have q2 : ∀ c, c ≠ 84 → c ≠ 87 → s2 c = s1 c := fun c u v => by rw [hs2, mwr_row u v, u2_row _ _ _ u, u2_row _ _ _ u]
    have q84 : ∀ j, j ≠ 0 → j ≠ 9 → s2 84 j = s 84 j := fun j u v => by rw [hs2, mwr_j v, u2_col _ _ _ v, u2_col _ _ _ u, q1 84 (by decide) (by decide) (by decide)]
    have qq : ∀ c, c ≠ 82 → c ≠ 83 → c ≠ 84 → c ≠ 87 → c ≠ 136 → s2 c = s c := fun c u1 u2 u3 u4 u5 => by rw [q2 c u3 u4, q1 c u1 u2 u5]
    have l82 : s2 82 2 = (R.length : Int) := by rw [q2 82 (by decide) (by decide), hs1, u2_row _ _ _ (by decide), eR, len]
    rw [← hs2] at mlen at2
    refine ⟨0, (R.length : Int), s1, s2, ?_, ?_, ?_, fun _ => ⟨?_, fun _ => ?_⟩, q1 0 (by decide) (by decide) (by decide)⟩
    · unfold f_288 f_10
      rw [k1, if_pos (by decide), p1, Option.bind_some, hs1]
      rfl
    · rw [hs2]
      exact p3 (by rw [q1 84 (by decide) (by decide) (by decide), k2]; decide)
    · refine ⟨g1.cg (fun c u => qq c (by omega) (by omega) (by omega) (by omega) (by omega)), g2.cg (by rw [qq 27 (by decide) (by decide) (by decide) (by decide) (by decide)]) (qq 28 (by decide) (by decide) (by decide) (by decide) (by decide)) (q84 1 (by decide) (by decide)) (qq 85 (by decide) (by decide) (by decide) (by decide) (by decide)), ⟨R.length, l82, p4, mlen, fun i hi => ?_⟩, GK.cg (Or.inr ⟨k1, k2, kn⟩) (by rw [qq 27 (by decide) (by decide) (by decide) (by decide) (by decide)]) (q84 5 (by decide) (by decide)) (fun c u => qq c (by omega) (by omega) (by omega) (by omega) (by omega)) (fun c u => qq c (by omega) (by omega) (by omega) (by omega) (by omega)) (fun j u0 _ _ u9 => q84 j u0 u9), ?_, ?_⟩
      · have b1 := at1 i hi
        have b2 := at2 i hi
        rw [Nat.zero_add] at b1 b2
        have b3 : 0 ≤ R.getD i 0 ∧ R.getD i 0 < 256 := by
          exact byl_getD R i hi p5
        rw [q2 83 (by decide) (by decide), hs1, u2_row _ _ _ (by decide), eR, b1, b2]
        omega
      · unfold RB at *
        rw [qq 74 (by decide) (by decide) (by decide) (by decide) (by decide)]; exact g5
      · unfold RM at *
        rw [q84 72 (by decide) (by decide)]; exact g6
    · rw [hs2, mwr_j (by decide), u2_col _ _ _ (by decide), u2_at, if_pos rfl]
    · rw [q2 136 (by decide) (by decide), hs1, show (0 : Int).toNat = 0 from rfl, u2_at, if_pos rfl, eR, len]
/-- OUT -/
theorem out_ (g : GIV s) : RES s (f_289 a s) (f_203 a) GIV True := by
  obtain ⟨-, -, ⟨L, l1, l2, l3, l4⟩, -, -, -⟩ := id g
  have w : ax_w32 ((L : Int) - 1) = (L : Int) - 1 := w32_id (by omega) (by omega)
  by_cases c : 0 ≤ a ∧ a < (L : Int)
  · obtain ⟨i, hi⟩ : ∃ i : Nat, a = (i : Int) := ⟨a.toNat, by omega⟩
    have e129 : f_129 a s = 1 := by unfold f_129; rw [if_neg (by omega), l1, if_neg (by omega)]
    have e130 : f_130 a s = s 83 i % 256 := by unfold f_130; rw [e129, if_neg (by decide), hi, Int.toNat_natCast, iand255]
    have b := l4 i (by omega)
    refine ⟨0, s 87 i, ax_u2 s 136 (0 : Int).toNat (s 87 i), ax_u2 (ax_u2 s 136 (0 : Int).toNat (s 87 i)) 84 0 0, ?_, ?_, ((QF.a136 s _).trans (QF.a84 _ 0)).gi g, fun _ => ⟨by rw [u2_at, if_pos rfl], fun _ => ?_⟩, u2_row _ _ _ (by decide)⟩
    · unfold f_289 f_11
      rw [e129, if_pos (by decide), gd_pos (by unfold g_130; exact ⟨fun _ => trivial, fun _ => ⟨by omega, trivial⟩⟩), e130, b.1]
      rfl
    · unfold f_203
      rw [f207, u2_row _ _ _ (show (84 : Nat) ≠ 136 by decide), l3, w, if_pos (show 0 ≤ a ∧ a ≤ (L : Int) - 1 by omega), if_neg (by decide), gd_pos (by omega), u2_row _ _ _ (show (87 : Nat) ≠ 136 by decide), hi, Int.toNat_natCast]
    · rw [u2_row _ _ _ (by decide), show (0 : Int).toNat = 0 from rfl, u2_at, if_pos rfl]
  · have e129 : f_129 a s = 0 := by
      unfold f_129
      by_cases d : a < 0
      · rw [if_pos d]
      · rw [if_neg d, l1, if_pos (by omega)]
    refine ⟨1, 0, s, ax_u2 (ax_u2 s 84 0 0) 84 0 1, ?_, ?_, ((QF.a84 s 0).trans (QF.a84 _ 1)).gi g, fun _ => ⟨by rw [u2_at, if_pos rfl], fun u => absurd u (by decide)⟩, rfl⟩
    · unfold f_289 f_11
      rw [e129, if_neg (by decide)]
      rfl
    · unfold f_203
      rw [f207, l3, w, if_neg (show ¬ (0 ≤ a ∧ a ≤ (L : Int) - 1) by omega), if_pos rfl]
      rfl
/-- AGAIN -/
theorem m204l {L : Nat} : ∀ (r l F : Nat) (s : Sg), l + r = L → L ≤ 8192 → s 84 9 = (L : Int) → ∃ s' : Sg, j_204_23 (F + r + 1) (l : Int) s = j_204_49 s' ∧ (∀ c, c ≠ 85 → s' c = s c) ∧ (∀ i, i < l → s' 85 i = s 85 i) ∧ (∀ i, l ≤ i → i < L → s' 85 i = s 87 i) := by
  intro r
  induction r with
  | zero =>
    intro l F s hl h8 h9
    exact ⟨s, by rw [j_204_23, h9, if_pos (by omega)], fun _ _ => rfl, fun _ _ => rfl, fun i u v => absurd v (by omega)⟩
  | succ r ih =>
    intro l F s hl h8 h9
    obtain ⟨s', e1, e2, e3, e4⟩ := ih (l + 1) F (ax_u2 s 85 l (s 87 l)) (by omega) h8 (by rw [u2_row _ _ _ (by decide)]; exact h9)
    refine ⟨s', ?_, fun c u => by rw [e2 c u, u2_row _ _ _ u], fun i hi => by rw [e3 i (by omega), u2_col _ _ _ (by omega)], fun i u v => ?_⟩
    · rw [show F + (r + 1) + 1 = (F + r + 1) + 1 by omega, j_204_23, h9, if_neg (by omega), gd_pos (by omega), gd_pos (by omega), w32_nat (by omega), Int.toNat_natCast]
      exact e1
    · by_cases q : i = l
      · rw [q, e3 l (by omega), u2_at, if_pos rfl]
      · rw [e4 i (by omega) v, u2_row _ _ _ (by decide)]
theorem again_ (g : GIV s) : RES s (f_290 s) f_204 GIV True := by
  obtain ⟨g1, ⟨n, t1, t2, t3, t4⟩, ⟨L, l1, l2, l3, l4⟩, g4, g5, g6⟩ := id g
  by_cases c : L ≤ 8192
  · have e291 : f_291 (L : Int) 8192 s = (L : Int) := by unfold f_291; rw [if_neg (by omega)]
    obtain ⟨s1, hs1⟩ : ∃ z : Sg, z = ax_u2 (ax_u2 (cpy s 83 28 0 0 L) 27 1 (L : Int)) 136 (0 : Int).toNat (L : Int) := ⟨_, rfl⟩
    have q1 : ∀ c, c ≠ 27 → c ≠ 28 → c ≠ 136 → s1 c = s c := fun c u v w => by rw [hs1, u2_row _ _ _ w, u2_row _ _ _ u]; unfold cpy; rw [if_neg v]
    have q28 : ∀ i, i < L → s1 28 i = s 83 i := fun i hi => by
      rw [hs1, u2_row _ _ _ (by decide), u2_row _ _ _ (by decide)]
      unfold cpy
      rw [if_pos rfl]
      unfold ax_cpy
      rw [if_pos (by omega)]
      congr 1
      omega
    have q27 : ∀ j, s1 27 j = if j = 1 then (L : Int) else s 27 j := fun j => by
      rw [hs1, u2_row _ _ _ (by decide), u2_at, show cpy s 83 28 0 0 L 27 = s 27 from rfl]
    obtain ⟨F, hF⟩ := FU_split (k := L + 1) (by omega)
    obtain ⟨s2, e1, e2, e3, e4⟩ := m204l (L := L) L 0 F (ax_u2 s1 84 0 0) (by omega) c (by rw [u2_col _ _ _ (by decide), q1 84 (by decide) (by decide) (by decide)]; exact l3)
    have e84 : s2 84 9 = (L : Int) := by rw [e2 84 (by decide), u2_col _ _ _ (by decide), q1 84 (by decide) (by decide) (by decide)]; exact l3
    have r2 : ∀ q, q ≠ 27 → q ≠ 28 → q ≠ 136 → q ≠ 84 → q ≠ 85 → ax_u2 s2 84 1 (L : Int) q = s q := fun q u1 u2 u3 u4 u5 => by rw [u2_row _ _ _ u4, e2 q u5, u2_row _ _ _ u4, q1 q u1 u2 u3]
    have r84 : ∀ j, j ≠ 0 → j ≠ 1 → ax_u2 s2 84 1 (L : Int) 84 j = s 84 j := fun j u v => by rw [u2_col _ _ _ v, e2 84 (by decide), u2_col _ _ _ u, q1 84 (by decide) (by decide) (by decide)]
    have v27 : ∀ j, ax_u2 s2 84 1 (L : Int) 27 j = if j = 1 then (L : Int) else s 27 j := fun j => by rw [u2_row _ _ _ (by decide), e2 27 (by decide), u2_row _ _ _ (by decide), q27]
    refine ⟨0, (L : Int), s1, ax_u2 s2 84 1 (L : Int), ?_, ?_, ?_, fun _ => ⟨?_, fun _ => ?_⟩, q1 0 (by decide) (by decide) (by decide)⟩
    · unfold f_290 f_12 f_131_28
      rw [l1, if_pos (by omega), e291, gd_pos (by omega), Option.bind_some, Int.toNat_natCast, hs1]
      rfl
    · unfold f_204
      rw [q1 84 (by decide) (by decide) (by decide), l3, if_pos (by omega)]
      have e1' : j_204_23 FU 0 (ax_u2 s1 84 0 0) = j_204_49 s2 := by rw [show FU = F + L + 1 by omega]; exact e1
      rw [e1']
      unfold j_204_49
      rw [e84]
    · refine ⟨g1.cg (fun q u => r2 q (by omega) (by omega) (by omega) (by omega) (by omega)), ⟨L, by rw [v27, if_pos rfl], c, by rw [u2_at, if_pos rfl], fun i hi => ?_⟩, ⟨L, by rw [r2 82 (by decide) (by decide) (by decide) (by decide) (by decide)]; exact l1, l2, by rw [r84 9 (by decide) (by decide)]; exact l3, by rw [r2 83 (by decide) (by decide) (by decide) (by decide) (by decide), r2 87 (by decide) (by decide) (by decide) (by decide) (by decide)]; exact l4⟩, g4.cg (by rw [v27, if_neg (by decide)]) (r84 5 (by decide) (by decide)) (fun q u => r2 q (by omega) (by omega) (by omega) (by omega) (by omega)) (fun q u => r2 q (by omega) (by omega) (by omega) (by omega) (by omega)) (fun j u1 u2 _ _ => r84 j u1 u2), ?_, ?_⟩
      · rw [u2_row _ _ _ (show (28 : Nat) ≠ 84 by decide), e2 28 (by decide), u2_row _ _ _ (show (28 : Nat) ≠ 84 by decide), q28 i hi, u2_row _ _ _ (show (85 : Nat) ≠ 84 by decide), e4 i (by omega) hi, u2_row _ _ _ (show (87 : Nat) ≠ 84 by decide), q1 87 (by decide) (by decide) (by decide)]
        exact l4 i hi
      · unfold RB at *
        rw [r2 74 (by decide) (by decide) (by decide) (by decide) (by decide)]; exact g5
      · unfold RM at *
        rw [r84 72 (by decide) (by decide)]; exact g6
    · rw [u2_col _ _ _ (by decide), e2 84 (by decide), u2_at, if_pos rfl]
    · rw [u2_row _ _ _ (by decide), e2 136 (by decide), u2_row _ _ _ (by decide), hs1, show (0 : Int).toNat = 0 from rfl, u2_at, if_pos rfl]
  · refine ⟨1, 0, s, ax_u2 (ax_u2 s 84 0 0) 84 0 1, ?_, ?_, ((QF.a84 s 0).trans (QF.a84 _ 1)).gi g, fun _ => ⟨by rw [u2_at, if_pos rfl], fun u => absurd u (by decide)⟩, rfl⟩
    · unfold f_290 f_12
      rw [l1, if_neg (by omega)]
      rfl
    · unfold f_204
      rw [l3, if_neg (by omega)]
      rfl
end CAL
