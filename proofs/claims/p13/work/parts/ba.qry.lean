/-! CALLS: fault, statement, bits, node, ring. -/
section QRY
variable {s s' sc sm x y : Sg} {T : TT} {n S P A N K C w : Nat} {t : Nat → Int} {a b : Int}
/-- FAULT -/
theorem c69 (s : Sg) : ∃ r : Int, f_69 s = some r := by
  have go : ∀ (r l F : Nat), l + r = 11 → ∃ q : Int, j_69_2 (F + r + 1) (l : Int) s = some q := by
    intro r
    induction r with
    | zero =>
      intro l F hl
      exact ⟨0, by rw [j_69_2, if_pos (by omega)]⟩
    | succ r ih =>
      intro l F hl
      rw [show F + (r + 1) + 1 = (F + r + 1) + 1 by omega, j_69_2, if_neg (by omega), gd_pos (by omega)]
      by_cases c : s 30 (l : Int).toNat = -1
      · rw [if_pos c, w32_nat (by omega)]
        exact ih (l + 1) F (by omega)
      · rw [if_neg c]
        unfold j_69_21
        exact ⟨_, gd_pos (by omega)⟩
  obtain ⟨F, hF⟩ := FU_split (k := 11) (by omega)
  obtain ⟨q, e⟩ := go 10 1 F (by omega)
  unfold f_69
  rw [show FU = F + 10 + 1 by omega]
  exact ⟨q, e⟩
theorem fault_ (g : GIV s) : RES s (f_283 a s) (f_197 a) GIV False := by
  have m : ∀ s1 : Sg, GIV s1 → ∃ (v : Int) (s2 : Sg), f_197 a s1 = some (v, s2) ∧ GIV s2 := fun s1 g1 => by
    unfold f_197
    by_cases c : a = 0
    · rw [if_neg (fun u => u c)]
      exact ⟨_, _, rfl, (QF.a84 _ 0).gi g1⟩
    · rw [if_pos c]
      by_cases d : a = 1
      · rw [if_neg (fun u => u d)]
        exact ⟨_, _, rfl, (QF.a84 _ 0).gi g1⟩
      · rw [if_pos d]
        exact ⟨_, _, rfl, ((QF.a84 _ 0).trans (QF.a84 _ 1)).gi g1⟩
  have c : ∃ (t0 : Int) (s1 : Sg), f_283 a s = some (t0, s1) ∧ GIV s1 ∧ s1 0 = s 0 := by
    unfold f_283 f_5
    by_cases c : a = 0
    · obtain ⟨r, e, -⟩ := c68 s
      rw [if_neg (fun u => u c), e]
      exact ⟨0, _, rfl, (QF.a136 s _).gi g, u2_row _ _ _ (by decide)⟩
    · rw [if_pos c]
      by_cases d : a = 1
      · obtain ⟨r, e⟩ := c69 s
        rw [if_neg (fun u => u d), e]
        exact ⟨0, _, rfl, (QF.a136 s _).gi g, u2_row _ _ _ (by decide)⟩
      · rw [if_pos d]
        exact ⟨1, _, rfl, g, rfl⟩
  obtain ⟨t0, s1, e1, g1, z1⟩ := c
  obtain ⟨v, s2, e2, g2⟩ := m s1 g1
  exact ⟨t0, v, s1, s2, e1, e2, g2, fun u => u.elim, z1⟩
/-- RING -/
theorem ring_ (g : GIV s) : RES s (f_287 a s) (f_201 a) GIV False := by
  have m : ∀ s1 : Sg, GIV s1 → ∃ (v : Int) (s2 : Sg), f_201 a s1 = some (v, s2) ∧ GIV s2 := fun s1 g1 => by
    obtain ⟨-, -, -, -, -, r0, r1⟩ := id g1
    have no : ∃ (v : Int) (s2 : Sg), j_201_39 (ax_u2 s1 84 0 0) = some (v, s2) ∧ GIV s2 := ⟨_, _, rfl, ((QF.a84 _ 0).trans (QF.a84 _ 1)).gi g1⟩
    unfold f_201
    by_cases c : s1 84 6 = 8
    · rw [if_neg (fun u => u c), f207]
      by_cases d : 0 ≤ a ∧ a ≤ ax_w32 (s1 84 72 - 1)
      · rw [w32_id (by omega) (by omega)] at d
        rw [w32_id (by omega) (by omega), if_pos d, if_neg (by decide), gd_pos (by omega)]
        exact ⟨_, _, rfl, (QF.a84 _ 0).gi g1⟩
      · rw [if_neg d, if_pos rfl]
        exact no
    · rw [if_pos c]
      exact no
  have c : ∃ (t0 : Int) (s1 : Sg), f_287 a s = some (t0, s1) ∧ GIV s1 ∧ s1 0 = s 0 := by
    obtain ⟨-, -, -, -, ⟨r0, r1⟩, -⟩ := id g
    unfold f_287 f_9
    by_cases c : f_161 a s = 0
    · rw [if_neg (fun u => u c)]
      exact ⟨1, _, rfl, g, rfl⟩
    · have : 0 ≤ a ∧ a < s 74 13 := by
        unfold f_161 at c
        by_cases d : a < 0
        · rw [if_pos d] at c; exact absurd rfl c
        · rw [if_neg d] at c
          by_cases e : s 74 13 ≤ a
          · rw [if_pos e] at c; exact absurd rfl c
          · omega
      rw [if_pos c, gd_pos (by unfold g_162; exact ⟨fun _ => trivial, fun _ => ⟨by omega, trivial⟩⟩)]
      exact ⟨0, _, rfl, (QF.a136 s _).gi g, u2_row _ _ _ (by decide)⟩
  obtain ⟨t0, s1, e1, g1, z1⟩ := c
  obtain ⟨v, s2, e2, g2⟩ := m s1 g1
  exact ⟨t0, v, s1, s2, e1, e2, g2, fun u => u.elim, z1⟩
/-- what was read, told of one state: sc has the widths as they were before the checks -/
theorem KN.ck (h : KN s) : ∃ (T : TT) (t : Nat → Int) (n : Nat) (sc : Sg) (S P A N K C : Nat), CKX T sc s n t S P A N K C 1 ∧ GOOD T sc s S A N 1 ∧ (∀ c, c ≠ 48 → sc c = s c) ∧ S ≤ 1171 ∧ K ≤ N ∧ s 54 6 = (S : Int) ∧ (∀ i, i < S → s 59 i = s 102 i) ∧ (∀ i, i < S → s 60 i + s 103 i = (if i + 1 < S then s 60 (i + 1) else (N : Int))) ∧ (∀ i : Nat, i < S → s 94 i = 3 → s 57 i = T.vl 1) ∧ (∀ k, k < N → (s 122 k = -2 ∧ s 48 k = 0) ∨ (1 ≤ s 122 k ∧ s 122 k ≤ 32 ∧ s 48 k = s 122 k)) := by
  obtain ⟨T, t, n, sc0, sm0, sc1, sm1, x, y, S, P, A, N, K, C, a1, a2, a3, a4, a5, a6, a7, a8, a9, a10⟩ := h
  obtain ⟨r1, r2, r3⟩ := kn_rows a6 a8 a9 a10
  obtain ⟨hk, hS, hC, hK, h103⟩ := ckx_in a1 a2 a5 a3
  obtain ⟨o1, o2, o3, o4, o5, o6, o7, o8, o9, o10, o11, o12, o13⟩ := id a6
  obtain ⟨hB, h70, h19, h7, h37, hnc, htl, hdp⟩ := a5
  obtain ⟨e1, e2, e3, e4, e5, e6, e7, e8, e9, e10, e11, e12, e13, e14, e15, e16, e17, e18, e19, e20, e21, e22, e23, e24, e25, e26, e27, e28, e29, e30, e31⟩ := hB
  obtain ⟨sc, hsc⟩ : ∃ z : Sg, z = fun c => if c = 48 then sc1 48 else s c := ⟨_, rfl⟩
  have q1 : ∀ c, c ≠ 48 → sc c = s c := fun c u => by rw [hsc]; simp only [if_neg u]
  have q48 : sc 48 = sc1 48 := by rw [hsc]; simp only [if_true]
  have cn1 : CN sc1 := o12 a7
  have cn : CN sc := by
    have f := o8.mpr a7
    unfold CN
    rw [q1 30 (by decide), a8 30 (by decide)]
    exact ⟨f 4 (by decide) (by decide), f 5 (by decide) (by decide), f 6 (by decide) (by decide), f 7 (by decide) (by decide)⟩
  have mv : MVr sc1 sm1 sc s := by
    refine ⟨fun c u v => ?_, ⟨fun _ => cn1, fun _ => cn⟩, fun c u v w => r2 c w v, fun j u6 u7 u8 u => r3 j u.2.1 u.2.2.1 u.2.2.2.1 u6 u7 u8 u.2.2.2.2 u.1⟩
    by_cases c48 : c = 48
    · rw [c48]; exact q48
    · rw [q1 c c48, r1 c v c48]
  have ck : CKX T sc s n t S P A N K C 1 := by rw [CKX_mv mv]; exact hk
  have gd : GOOD T sc s S A N 1 := ck.2.2.2.1.2.2.2.2.2.2.1.mp cn
  have h54 : s 54 = sc1 54 := r1 54 (by decide) (by decide)
  refine ⟨T, t, n, sc, S, P, A, N, K, C, ck, gd, q1, hS, e26, by rw [h54]; exact e10, fun i hi => ?_, fun i hi => ?_, fun i hi h3 => ?_, fun k hk => ?_⟩
  · rw [r1 59 (by decide) (by decide), r2 102 (by decide) (by decide)]
    exact e18 i hi
  · rw [r1 60 (by decide) (by decide), r2 103 (by decide) (by decide)]
    exact hnc i hi
  · rw [r2 94 (by decide) (by decide)] at h3
    have wb := gd.1.2
    rw [r1 57 (by decide) (by decide), o13 a7 i (by rw [e10]; omega) h3, e29]
    unfold mn
    rw [if_neg (by omega)]
  · rw [a8 48 (by decide), a9 122 (by decide)]
    exact o9 a7 k hk
/-- STATEMENT -/
theorem f217 (s : Sg) (h5 : s 84 5 = 1) (h19 : s 84 19 = (S : Int)) (hS : S ≤ 4100) : f_217 a s = if 0 ≤ a ∧ a < (S : Int) then 1 else 0 := by
  unfold f_217
  rw [h5, if_neg (by decide), f207, h19, w32_id (by omega) (by omega)]
  by_cases c : 0 ≤ a ∧ a < (S : Int)
  · rw [if_pos (show 0 ≤ a ∧ a ≤ (S : Int) - 1 by omega), if_neg (by decide), if_pos c]
  · rw [if_neg (show ¬ (0 ≤ a ∧ a ≤ (S : Int) - 1) by omega), if_pos rfl, if_neg c]
theorem f181 (s : Sg) (h : s 54 6 = (S : Int)) : f_181 a s = if 0 ≤ a ∧ a < (S : Int) then 1 else 0 := by
  unfold f_181
  by_cases c : a < 0
  · rw [if_pos c, if_neg (by omega)]
  · rw [if_neg c, h]
    by_cases d : (S : Int) ≤ a
    · rw [if_pos d, if_neg (by omega)]
    · rw [if_neg d, if_pos (by omega)]
/-- both answer v -/
theorem RES.ok {rc : Option (Int × Sg)} {rm : Sg → Option (Int × Sg)} {v : Int} (g : GIV s) (h1 : rc = some (0, ax_u2 s 136 (0 : Int).toNat v)) (h2 : ∀ s1 : Sg, QF s s1 → rm s1 = some (v, ax_u2 s1 84 0 0)) : RES s rc rm GIV True :=
  ⟨0, v, _, _, h1, h2 _ (QF.a136 s v), ((QF.a136 s v).trans (QF.a84 _ 0)).gi g, fun _ => ⟨by rw [u2_at, if_pos rfl], fun _ => by rw [u2_row _ _ _ (by decide), show (0 : Int).toNat = 0 from rfl, u2_at, if_pos rfl]⟩, u2_row _ _ _ (by decide)⟩
/-- both tell a mark -/
theorem RES.no {rc : Option (Int × Sg)} {rm : Sg → Option (Int × Sg)} {v : Int} (g : GIV s) (hv : v ≠ 0) (h1 : rc = some (v, s)) (h2 : rm s = some (0, ax_u2 (ax_u2 s 84 0 0) 84 0 v)) : RES s rc rm GIV True :=
  ⟨v, 0, _, _, h1, h2, ((QF.a84 s 0).trans (QF.a84 _ v)).gi g, fun _ => ⟨by rw [u2_at, if_pos rfl], fun u => absurd u hv⟩, rfl⟩
theorem RES.wk {rc : Option (Int × Sg)} {rm : Sg → Option (Int × Sg)} {E E' : Prop} (h : RES s rc rm GIV E) (k : E' → E) : RES s rc rm GIV E' := by
  obtain ⟨t0, v, s1, s2, h1, h2, h3, h4, h5⟩ := h
  exact ⟨t0, v, s1, s2, h1, h2, h3, fun u => h4 (k u), h5⟩
theorem QF.tx (h : QF s s') (hX : TX T sc s n t) : TX T sc (ax_u2 s' 84 0 0) n t := hX.cg (fun _ _ => rfl) (fun c u => by rw [u2_row _ _ _ (by omega), h.1 c (by omega) (by omega)]) (by rw [u2_col _ _ _ (by decide), h.2 3 (by decide)])
theorem statement_ (g : GIV s) : RES s (f_284 a b s) (f_198 a b) GIV True := by
  obtain ⟨-, -, -, gk, -, -⟩ := id g
  rcases gk with ⟨k1, k2, k3, k4, k5⟩ | ⟨k1, k2, kn⟩
  · refine RES.no (v := 1) g (by decide) ?_ ?_
    · unfold f_284 f_6
      rw [show f_181 a s = 0 from by rw [f181 (S := 0) s k3, if_neg (by omega)], if_pos rfl]
      rfl
    · unfold f_198 f_217
      rw [u2_col _ _ _ (by decide), k2, if_pos rfl, if_pos rfl]
      rfl
  · obtain ⟨T, t, n, sc, S, P, A, N, K, C, ck, gd, q1, hS, hK, h54, h59, h60, h57, -⟩ := kn.ck
    obtain ⟨hT, hX, hC, hD, hN, h19, h31, h34, h30, wz, tw, S8, P8, A8, N8⟩ := id ck
    by_cases c : (0 ≤ a ∧ a < (S : Int)) ∧ (0 ≤ b ∧ b ≤ 4)
    · obtain ⟨c1, c2⟩ := c
      obtain ⟨i, hi⟩ : ∃ i : Nat, a = (i : Int) := ⟨a.toNat, by omega⟩
      have iS : i < S := by omega
      have e181 : ∀ q : Int, f_181 q s = if 0 ≤ q ∧ q < (S : Int) then 1 else 0 := fun q => f181 s h54
      have a181 : f_181 a s = 1 := by rw [e181, if_pos c1]
      have m217 : ∀ s1 : Sg, QF s s1 → f_217 a (ax_u2 s1 84 0 0) = 1 := fun s1 q => by rw [f217 (S := S) _ (by rw [u2_col _ _ _ (by decide), q.2 5 (by decide)]; exact k2) (by rw [u2_col _ _ _ (by decide), q.2 19 (by decide)]; exact h19) (by omega), if_pos c1]
      obtain ⟨hd, p0, pc, n0, b1, b2, b3, b4, b5, b6, b7, b8, b9, b10, b11⟩ := hD.1 i iS
      have gs := gd.2.1 i iS
      have r : ∀ s1 : Sg, QF s s1 → ∀ c, 88 ≤ c → c ≤ 135 → s1 c = s c := fun s1 q c u v => q.1 c (by omega) (by omega)
      rw [q1 55 (by decide)] at b5
      have gc : (f_181 a s = 0 → True) ∧ (¬ (f_181 a s = 0) → ((0 ≤ a ∧ a < 1171) ∧ True)) := ⟨fun _ => trivial, fun _ => ⟨by omega, trivial⟩⟩
      have cas : b = 0 ∨ b = 1 ∨ b = 2 ∨ b = 3 ∨ b = 4 := by omega
      rcases cas with e | e | e | e | e
      · -- what it is
        refine RES.ok (v := s 94 i) g ?_ (fun s1 q => ?_)
        · unfold f_284 f_6
          rw [a181, if_neg (by decide), if_neg (by omega), if_pos (by omega), if_pos e, gd_pos (p := g_182 a s) gc]
          unfold f_182
          rw [a181, if_neg (by decide), hi, Int.toNat_natCast, b5]
          rfl
        · unfold f_198
          rw [m217 s1 q, if_neg (by decide), f207, if_pos c2, if_pos (by decide), if_neg (fun u => u e), gd_pos (by omega), hi, Int.toNat_natCast, r s1 q 94 (by decide) (by decide)]
      · -- its width
        have key : ∃ v : Int, s 57 i = v ∧ ∀ s1 : Sg, QF s s1 → (if ¬ (s1 94 i) = 3 then j_198_71 (s1 97 i) (ax_u2 s1 84 0 0) else j_198_71 (s1 84 30) (ax_u2 s1 84 0 0)) = some (v, ax_u2 s1 84 0 0) := by
          by_cases c3 : s 94 i = 3
          · have wb := gd.1
            refine ⟨T.vl 1, h57 i iS c3, fun s1 q => ?_⟩
            rw [r s1 q 94 (by decide) (by decide), if_neg (fun u => u c3), q.2 30 (by decide), h30]
            unfold j_198_71
            rw [m218 hT (q.tx hX) wz tw, Option.bind_some, w32_id (by omega) (by omega)]
          · have sk : SKW T sc s i := by
              rcases b11 with u | u | u | u
              · exact u.2.2.1
              · exact u.2.2.1
              · exact u.2.2.1
              · exact absurd u.1 c3
            obtain ⟨w, w1, w2, w3, w4⟩ := sk
            have lt : s 94 i < 3 := by
              rcases b11 with u | u | u | u
              · omega
              · omega
              · omega
              · exact absurd u.1 c3
            have gw := gs.1 lt
            rw [w1, Int.toNat_natCast] at gw
            refine ⟨T.vl w, ?_, fun s1 q => ?_⟩
            · rw [← q1 57 (by decide), w4]
              unfold mn
              rw [if_neg (by omega)]
            · rw [r s1 q 94 (by decide) (by decide), if_pos c3, r s1 q 97 (by decide) (by decide), w1]
              unfold j_198_71
              rw [m218 hT (q.tx hX) w2 w3, Option.bind_some, w32_id (by omega) (by omega)]
        obtain ⟨v, v1, v2⟩ := key
        refine RES.ok (v := v) g ?_ (fun s1 q => ?_)
        · unfold f_284 f_6
          rw [a181, if_neg (by decide), if_neg (by omega), if_pos (by omega), if_neg (by omega), if_pos e, gd_pos (p := g_183 a s) gc]
          unfold f_183
          rw [a181, if_neg (by decide), hi, Int.toNat_natCast, v1]
          rfl
        · have := v2 s1 q
          unfold f_198
          rw [m217 s1 q, if_neg (by decide), f207, if_pos c2, if_pos (by decide), if_pos (by omega), if_neg (fun u => u e), gd_pos (by omega), hi, Int.toNat_natCast]
          rw [gd_pos (by omega)]
          exact this
      · -- registers, address bits, parameters, parts
        have key : ∃ v : Int, s 58 i = v ∧ ∀ s1 : Sg, QF s s1 → (if s1 94 i ≤ 1 then (if 0 ≤ s1 96 i then (f_218 (s1 96 i) (ax_u2 s1 84 0 0)).bind fun q2 => some (ax_w32 q2, (ax_u2 s1 84 0 0)) else some (0, (ax_u2 s1 84 0 0))) else some (s1 99 i, (ax_u2 s1 84 0 0))) = some (v, ax_u2 s1 84 0 0) := by
          have skc : s 94 i ≤ 1 → SKC T sc s i → ∃ v : Int, s 58 i = v ∧ ∀ s1 : Sg, QF s s1 → (if s1 94 i ≤ 1 then (if 0 ≤ s1 96 i then (f_218 (s1 96 i) (ax_u2 s1 84 0 0)).bind fun q2 => some (ax_w32 q2, (ax_u2 s1 84 0 0)) else some (0, (ax_u2 s1 84 0 0))) else some (s1 99 i, (ax_u2 s1 84 0 0))) = some (v, ax_u2 s1 84 0 0) := fun l1 sk => by
            obtain ⟨w, w1, w2, w3, w4⟩ := sk
            have gv : 0 ≤ T.vl w ∧ T.vl w ≤ 64 := by
              have v0 := (hT.2.2.2.2.1 w w2).1
              by_cases z : s 94 i = 0
              · have := gs.2.2.1 z (by omega)
                rw [w1, Int.toNat_natCast] at this
                unfold pw2 at this
                omega
              · have z1 : s 94 i = 1 := by
                  rcases b11 with u | u | u | u
                  · exact absurd u.1 z
                  · exact u.1
                  · omega
                  · omega
                have := gs.2.1 z1
                rw [w1, Int.toNat_natCast] at this
                omega
            refine ⟨T.vl w, ?_, fun s1 q => ?_⟩
            · rw [← q1 58 (by decide), w4]
              unfold mn
              rw [if_neg (by omega)]
            · rw [r s1 q 94 (by decide) (by decide), if_pos l1, r s1 q 96 (by decide) (by decide), w1, if_pos (by omega), m218 hT (q.tx hX) w2 w3, Option.bind_some, w32_id (by omega) (by omega)]
          have prt : 1 < s 94 i → sc 58 i = (pc : Int) → ∃ v : Int, s 58 i = v ∧ ∀ s1 : Sg, QF s s1 → (if s1 94 i ≤ 1 then (if 0 ≤ s1 96 i then (f_218 (s1 96 i) (ax_u2 s1 84 0 0)).bind fun q2 => some (ax_w32 q2, (ax_u2 s1 84 0 0)) else some (0, (ax_u2 s1 84 0 0))) else some (s1 99 i, (ax_u2 s1 84 0 0))) = some (v, ax_u2 s1 84 0 0) := fun l1 sk => by
            refine ⟨(pc : Int), by rw [← q1 58 (by decide), sk], fun s1 q => ?_⟩
            rw [r s1 q 94 (by decide) (by decide), if_neg (by omega), r s1 q 99 (by decide) (by decide), b7]
          rcases b11 with u | u | u | u
          · rcases u.2.2.2 with ⟨v1, v2⟩ | v
            · refine ⟨0, by rw [← q1 58 (by decide), v2], fun s1 q => ?_⟩
              rw [r s1 q 94 (by decide) (by decide), if_pos (by omega), r s1 q 96 (by decide) (by decide), v1, if_neg (by decide)]
            · exact skc (by omega) v
          · exact skc (by omega) u.2.2.2
          · exact prt (by omega) u.2.1
          · exact prt (by omega) u.2.1
        obtain ⟨v, v1, v2⟩ := key
        refine RES.ok (v := v) g ?_ (fun s1 q => ?_)
        · unfold f_284 f_6
          rw [a181, if_neg (by decide), if_neg (by omega), if_pos (by omega), if_neg (by omega), if_neg (by omega), if_pos e, gd_pos (p := g_184 a s) gc]
          unfold f_184
          rw [a181, if_neg (by decide), hi, Int.toNat_natCast, v1]
          rfl
        · have := v2 s1 q
          unfold f_198
          rw [m217 s1 q, if_neg (by decide), f207, if_pos c2, if_pos (by decide), if_pos (by omega), if_pos (by omega), if_neg (fun u => u e), gd_pos (by omega), gd_pos (by omega), gd_pos (by omega), gd_pos (by omega), hi, Int.toNat_natCast]
          exact this
      · -- actions
        refine RES.ok (v := s 102 i) g ?_ (fun s1 q => ?_)
        · unfold f_284 f_6
          rw [a181, if_neg (by decide), if_neg (by omega), if_pos (by omega), if_neg (by omega), if_neg (by omega), if_neg (by omega), if_pos e, gd_pos (p := g_185 a s) gc]
          unfold f_185
          rw [a181, if_neg (by decide), hi, Int.toNat_natCast, h59 i iS]
          rfl
        · unfold f_198
          rw [m217 s1 q, if_neg (by decide), f207, if_pos c2, if_pos (by decide), if_pos (by omega), if_pos (by omega), if_pos (by omega), if_neg (fun u => u e), gd_pos (by omega), hi, Int.toNat_natCast, r s1 q 102 (by decide) (by decide)]
      · -- nodes
        have h6 := h60 i iS
        have n0' : s 60 i = (n0 : Int) := by rw [← q1 60 (by decide)]; exact b9
        have a186 : f_186 a s = (n0 : Int) := by unfold f_186; rw [a181, if_neg (by decide), hi, Int.toNat_natCast, n0']
        refine RES.ok (v := s 103 i) g ?_ (fun s1 q => ?_)
        · have j129 : ∀ z : Int, 0 ≤ z → z ≤ 8192 → s 103 i = z - (n0 : Int) → j_6_129 a z s = some (.inl (s 103 i, s)) := fun z z0 z1 z2 => by
            unfold j_6_129
            rw [gd_pos (p := g_186 a s) gc, a186, w32_id (by omega) (by omega), z2]
          have fin : f_6 a b s = some (.inl (s 103 i, s)) := by
            unfold f_6
            rw [a181, if_neg (by decide), if_neg (by omega), if_pos (by omega), if_neg (by omega), if_neg (by omega), if_neg (by omega), if_neg (by omega), hi, w32_nat (by omega)]
            by_cases l : i + 1 < S
            · rw [if_pos l] at h6
              obtain ⟨_, _, _, n1, _, _, _, _, _, _, _, _, d9, d10, _⟩ := hD.1 (i + 1) l
              rw [q1 60 (by decide)] at d9
              have i181 : f_181 ((i + 1 : Nat) : Int) s = 1 := by rw [e181, if_pos (by omega)]
              have e186 : f_186 ((i + 1 : Nat) : Int) s = (n1 : Int) := by unfold f_186; rw [i181, if_neg (by decide), Int.toNat_natCast, d9]
              rw [i181, if_neg (by decide), gd_pos (p := g_186 ((i + 1 : Nat) : Int) s) ⟨fun _ => trivial, fun _ => ⟨by omega, trivial⟩⟩, e186, ← hi]
              exact j129 _ (by omega) (by omega) (by omega)
            · rw [if_neg l] at h6
              have e46 : s 46 7 = (N : Int) := by rw [← q1 46 (by decide)]; exact hN.1
              have i181 : f_181 ((i + 1 : Nat) : Int) s = 0 := by rw [e181, if_neg (by omega)]
              rw [i181, if_pos rfl, e46, ← hi]
              exact j129 _ (by omega) (by omega) (by omega)
          unfold f_284
          rw [fin]
          rfl
        · unfold f_198
          rw [m217 s1 q, if_neg (by decide), f207, if_pos c2, if_pos (by decide), if_pos (by omega), if_pos (by omega), if_pos (by omega), if_pos (by omega), gd_pos (by omega), hi, Int.toNat_natCast, r s1 q 103 (by decide) (by decide)]
    · refine RES.no (v := 1) g (by decide) ?_ ?_
      · unfold f_284 f_6
        rw [f181 (S := S) s h54]
        by_cases c1 : 0 ≤ a ∧ a < (S : Int)
        · rw [if_pos c1, if_neg (by decide)]
          by_cases d : b < 0
          · rw [if_pos d]; rfl
          · rw [if_neg d, if_neg (by omega)]; rfl
        · rw [if_neg c1, if_pos rfl]; rfl
      · unfold f_198
        rw [f217 (S := S) _ (by rw [u2_col _ _ _ (by decide)]; exact k2) (by rw [u2_col _ _ _ (by decide)]; exact h19) (by omega)]
        by_cases c1 : 0 ≤ a ∧ a < (S : Int)
        · rw [if_pos c1, if_neg (by decide), f207, if_neg (fun u => c ⟨c1, u⟩), if_neg (by decide)]; rfl
        · rw [if_neg c1, if_pos rfl]; rfl
end QRY
