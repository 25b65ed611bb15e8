/-! RINGS: the class collects the calls. -/
def CGR (S : Nat) (s : Sg) (M : Nat) (tr : Nat → Nat) : Prop := s 74 7 = (M : Int) ∧ (∀ c, c < M → ∃ a : Nat, s 76 c = (a : Int) ∧ a < S ∧ tr c < S ∧ LN tr (tr c) c (s 77 c)) ∧ (∀ b, b < S → LN tr b M (s 75 b)) ∧ (∀ a, a < S → s 78 a = ((cnt (fun c => s 76 c = (a : Int)) M : Nat) : Int))
/-- the calls are the edges -/
def CGE (T : TT) (sc sm : Sg) (S : Nat) (s : Sg) (M : Nat) (tr : Nat → Nat) : Prop := CGR S s M tr ∧ M ≤ 2730 ∧ RGF sc s ∧ (∀ c, c < M → ∃ a : Nat, s 76 c = (a : Int) ∧ EDG T sc sm S a (tr c)) ∧ (∀ a b, EDG T sc sm S a b → ∃ c, c < M ∧ s 76 c = (a : Int) ∧ tr c = b)
section COL
variable {T : TT} {sc sm s : Sg} {n' S P A N K C w a b M : Nat} {t : Nat → Int} {tr : Nat → Nat}
theorem c172 (hs : RGF sc s) (h54 : sc 54 6 = (S : Int)) (hS8 : S ≤ 1171) (h : CGR S s M tr) (hM : M < 2731) (ha : a < S) (hb : b < S) : ∃ s' : Sg, g_172 (a : Int) (b : Int) s ∧ f_172 (a : Int) (b : Int) s = s' ∧ RGF sc s' ∧ CGR S s' (M + 1) (fun c => if c = M then b else tr c) ∧ s' 76 M = (a : Int) ∧ (∀ c, c ≠ M → s' 76 c = s 76 c) := by
  obtain ⟨h1, h2, h3, h4⟩ := h
  have f1 := c173 hs h54 hS8 ha
  have f2 := c173 hs h54 hS8 hb
  obtain ⟨s', hs'⟩ : ∃ s' : Sg, s' = ax_u2 (ax_u2 (ax_u2 (ax_u2 (ax_u2 s 76 M (a : Int)) 77 M (s 75 b)) 75 b (M : Int)) 74 7 ((M + 1 : Nat) : Int)) 78 a (s 78 a + 1) := ⟨_, rfl⟩
  have c4 := cnt_le (p := fun c => s 76 c = (a : Int)) M
  have e78 := h4 a ha
  have hf : f_172 (a : Int) (b : Int) s = s' := by
    unfold f_172
    rw [f1, f2, if_neg (by decide), if_neg (by decide), h1, if_pos (by omega), Int.toNat_natCast, Int.toNat_natCast, Int.toNat_natCast, w32_nat (by omega), w32_id (z := s 78 a + 1) (by omega) (by omega), hs']
  have r : ∀ c, c < 74 ∨ 78 < c → s' c = s c := fun c x => by rw [hs', u2_row _ _ _ (by omega), u2_row _ _ _ (by omega), u2_row _ _ _ (by omega), u2_row _ _ _ (by omega), u2_row _ _ _ (by omega)]
  have v76 : s' 76 M = (a : Int) := by rw [hs']; simp [ax_u2]
  have v76' : ∀ c, c ≠ M → s' 76 c = s 76 c := fun c x => by rw [hs']; simp [ax_u2, x]
  have v77 : s' 77 M = s 75 b := by rw [hs']; simp [ax_u2]
  have v77' : ∀ c, c ≠ M → s' 77 c = s 77 c := fun c x => by rw [hs']; simp [ax_u2, x]
  have v75 : s' 75 b = (M : Int) := by rw [hs']; simp [ax_u2]
  have v75' : ∀ c, c ≠ b → s' 75 c = s 75 c := fun c x => by rw [hs']; simp [ax_u2, x]
  have v78 : s' 78 a = s 78 a + 1 := by rw [hs']; simp [ax_u2]
  have v78' : ∀ c, c ≠ a → s' 78 c = s 78 c := fun c x => by rw [hs']; simp [ax_u2, x]
  have v74 : s' 74 7 = ((M + 1 : Nat) : Int) := by rw [hs']; simp [ax_u2]
  have keep : ∀ c, c < M → (fun c => if c = M then b else tr c) c = tr c := fun c hc => if_neg (by omega)
  refine ⟨s', ?_, hf, fun c x => by rw [r c (by omega)]; exact hs c x, ⟨v74, fun c hc => ?_, fun d hd => ?_, fun d hd => ?_⟩, v76, v76'⟩
  · unfold g_172
    rw [h1]
    exact ⟨fun _ => trivial, fun _ => ⟨fun _ => trivial, fun _ => ⟨fun _ => ⟨by omega, by omega, by omega, by omega, by omega, by omega, trivial⟩, fun _ => trivial⟩⟩⟩
  · by_cases e : c = M
    · subst e
      refine ⟨a, v76, ha, by show (if c = c then b else tr c) < S; rw [if_pos rfl]; exact hb, ?_⟩
      rw [v77]
      show LN _ (if c = c then b else tr c) c _
      rw [if_pos rfl]
      exact (h3 b hb).keep keep
    · obtain ⟨a', k1, k2, k3, k4⟩ := h2 c (by omega)
      refine ⟨a', by rw [v76' c e]; exact k1, k2, by show (if c = M then b else tr c) < S; rw [if_neg e]; exact k3, ?_⟩
      rw [v77' c e]
      show LN _ (if c = M then b else tr c) c _
      rw [if_neg e]
      exact k4.keep (fun d hd => keep d (by omega))
  · by_cases e : d = b
    · subst e
      rw [v75]
      exact LN.put M (if_pos rfl)
    · rw [v75' d e]
      exact ((h3 d hd).keep keep).up (by show (if M = M then b else tr M) ≠ d; rw [if_pos rfl]; exact fun u => e u.symm)
  · by_cases e : d = a
    · subst e
      rw [v78, h4 d hd, cnt_y (p := fun c => s' 76 c = (d : Int)) v76, cnt_c M (p := fun c => s' 76 c = (d : Int)) (p' := fun c => s 76 c = (d : Int)) (fun i hi => by rw [v76' i (by omega)])]
      omega
    · rw [v78' d e, h4 d hd, cnt_n (p := fun c => s' 76 c = (d : Int)) (by rw [v76]; omega), cnt_c M (p := fun c => s' 76 c = (d : Int)) (p' := fun c => s 76 c = (d : Int)) (fun i hi => by rw [v76' i (by omega)])]
theorem c172n (hb : f_173 (-1) s = 0) : g_172 (a : Int) (-1) s ∧ f_172 (a : Int) (-1) s = s := by
  unfold g_172 f_172
  rw [hb]
  refine ⟨⟨fun _ => trivial, fun _ => ⟨fun _ => trivial, fun u => absurd rfl u⟩⟩, ?_⟩
  by_cases c : f_173 (a : Int) s = 0
  · rw [if_pos c]
  · rw [if_neg c, if_pos rfl]
/-- all calls of the statements before k -/
def CLN (T : TT) (sc sm : Sg) (S k : Nat) (s : Sg) (M : Nat) (tr : Nat → Nat) (X : Nat) : Prop := CGR S s M tr ∧ RGF sc s ∧ (∀ c, c < M → ∃ a : Nat, s 76 c = (a : Int) ∧ EDG T sc sm S a (tr c)) ∧ (∀ a b, a < k → EDG T sc sm S a b → ∃ c, c < M ∧ s 76 c = (a : Int) ∧ tr c = b) ∧ 3 * M ≤ X ∧ X ≤ T.z ∧ (∀ j, k ≤ j → j < S → sm 94 j = 2 → (X : Int) ≤ sm 95 j)
theorem col_step (h : CKX T sc sm n' t S P A N K C w) (g : GOOD T sc sm S A N w) (n6 : ¬ BD6 T sm S A N) (n7 : ¬ BD7 T sm S A N) (h54 : sc 54 6 = (S : Int)) (hS8 : S ≤ 1171) {k X F : Nat} (hk : k < S) (cl : CLN T sc sm S k s M tr X) : ∃ (s' : Sg) (M' : Nat) (tr' : Nat → Nat) (X' : Nat), j_165_47 (F + 1) (k : Int) s = j_165_47 F ((k + 1 : Nat) : Int) s' ∧ CLN T sc sm S (k + 1) s' M' tr' X' := by
  obtain ⟨hd, b1, hdz, p7, e187, e170, e170n⟩ := c170 h cl.2.1 h54 hS8 hk
  have hhlp := fun h2 => h.hlp g n6 n7 hk h2
  obtain ⟨hT, hX, hC, hD, -⟩ := id h
  have z8 := hT.1
  have lor := hD.2.2.2.2.2.2.2.2.2
  have k96 : ∀ z : Sg, j_165_96 (j_165_47 F) (k : Int) z = j_165_47 F ((k + 1 : Nat) : Int) z := fun z => by
    unfold j_165_96
    rw [w32_nat (by omega)]
  obtain ⟨c1, c2, c3, c4, c5, c6, c7⟩ := cl
  rw [j_165_47, c2 54 (by decide), h54, if_neg (by omega)]
  by_cases h2 : sm 94 k = 2
  · obtain ⟨hd', st, e, hl, ca, -⟩ := hhlp h2
    have ehd : hd' = hd := by have := hl.1; omega
    subst ehd
    obtain ⟨l1, l2, l3, l4, l5, l6, l7, l8, l9⟩ := id hl
    have hX0 := c7 k (Nat.le_refl _) hk h2
    have lcb : ∀ i, hd' + 1 ≤ i → i ≤ e → 3 * lcT T (hd' + 1) (i - (hd' + 1)) ≤ e - st := fun i x y => by
      have a1 := lcT_add T (hd' + 1) (i - (hd' + 1)) (e - i)
      rw [show i - (hd' + 1) + (e - i) = (st - (hd' + 1)) + (e - st) by omega, lcT_add T (hd' + 1) (st - (hd' + 1)) (e - st), lcT_0 T (hd' + 1) (st - (hd' + 1)) (fun k u v => l8 k (by omega) (by omega)), show hd' + 1 + (st - (hd' + 1)) = st by omega] at a1
      omega
    have go : ∀ (r i G : Nat) (s : Sg) (M : Nat) (tr : Nat → Nat), i + r = e → hd' + 1 ≤ i → CGR S s M tr → RGF sc s → (∀ c, c < M → ∃ a : Nat, s 76 c = (a : Int) ∧ EDG T sc sm S a (tr c)) → (∀ a b, a < k → EDG T sc sm S a b → ∃ c, c < M ∧ s 76 c = (a : Int) ∧ tr c = b) → (∀ q b, hd' < q → q < i → CLL T q → sc 36 (T.vl q).toNat = ((b : Nat) : Int) → ∃ c, c < M ∧ s 76 c = (k : Int) ∧ tr c = b) → 3 * M ≤ X + 3 * lcT T (hd' + 1) (i - (hd' + 1)) →
        ∃ (s' : Sg) (M' : Nat) (tr' : Nat → Nat), j_165_75 (j_165_47 F) (G + r + 1) (k : Int) (e : Int) (i : Int) s = j_165_47 F ((k + 1 : Nat) : Int) s' ∧ CGR S s' M' tr' ∧ RGF sc s' ∧ (∀ c, c < M' → ∃ a : Nat, s' 76 c = (a : Int) ∧ EDG T sc sm S a (tr' c)) ∧ (∀ a b, a < k → EDG T sc sm S a b → ∃ c, c < M' ∧ s' 76 c = (a : Int) ∧ tr' c = b) ∧ (∀ q b, hd' < q → q < e → CLL T q → sc 36 (T.vl q).toNat = ((b : Nat) : Int) → ∃ c, c < M' ∧ s' 76 c = (k : Int) ∧ tr' c = b) ∧ 3 * M' ≤ X + (e - st) := by
      intro r
      induction r with
      | zero =>
        intro i G s M tr hi h1 q1 q2 q3 q4 q5 q6
        refine ⟨s, M, tr, ?_, q1, q2, q3, q4, fun q b u v => q5 q b u (by omega), ?_⟩
        · rw [j_165_75, if_pos (by omega), k96]
        · have := lcb i h1 (by omega)
          omega
      | succ r ih =>
        intro i G s M tr hi h1 q1 q2 q3 q4 q5 q6
        obtain ⟨w1, w2, w3⟩ := c171 hT q2 hC (k := i) (by omega)
        have lb := lcb i h1 (by omega)
        rw [show G + (r + 1) + 1 = (G + r + 1) + 1 by omega, j_165_75, if_neg (by omega), gd_pos w1, w32_nat (by omega)]
        have lsucc : lcT T (hd' + 1) (i + 1 - (hd' + 1)) = lcT T (hd' + 1) (i - (hd' + 1)) + (if T.tk i = 1 ∧ T.tk (i + 1) = 40 then 1 else 0) := by
          rw [show i + 1 - (hd' + 1) = (i - (hd' + 1)) + 1 by omega]
          show lcT T (hd' + 1) (i - (hd' + 1)) + (if T.tk (hd' + 1 + (i - (hd' + 1))) = 1 ∧ T.tk (hd' + 1 + (i - (hd' + 1)) + 1) = 40 then 1 else 0) = _
          rw [show hd' + 1 + (i - (hd' + 1)) = i by omega]
        by_cases cc : CLL T i
        · obtain ⟨b, m, bS, e36, -⟩ := ca i (by omega) (by omega) cc
          obtain ⟨s', g1, g2, g3, g4, g5, g6⟩ := c172 (a := k) (b := b) q2 h54 hS8 q1 (by omega) hk bS
          rw [w2 cc, e36, gd_pos g1, g2, Option.bind_some]
          have ed : EDG T sc sm S k b := ⟨hk, bS, hd', st, e, i, hl, by omega, by omega, cc, e36⟩
          refine ih (i + 1) G s' (M + 1) (fun c => if c = M then b else tr c) (by omega) (by omega) g4 g3 (fun c hc => ?_) (fun a' b' u v => ?_) (fun q b' u v z z2 => ?_) (by rw [lsucc, if_pos (show T.tk i = 1 ∧ T.tk (i + 1) = 40 from cc)]; omega)
          · by_cases e1 : c = M
            · exact ⟨k, by rw [e1]; exact g5, by show EDG T sc sm S k (if c = M then b else tr c); rw [if_pos e1]; exact ed⟩
            · obtain ⟨a', x1, x2⟩ := q3 c (by omega)
              exact ⟨a', by rw [g6 c e1]; exact x1, by show EDG T sc sm S a' (if c = M then b else tr c); rw [if_neg e1]; exact x2⟩
          · obtain ⟨c, x1, x2, x3⟩ := q4 a' b' u v
            exact ⟨c, by omega, by rw [g6 c (by omega)]; exact x2, by show (if c = M then b else tr c) = b'; rw [if_neg (by omega)]; exact x3⟩
          · by_cases e1 : q = i
            · subst e1
              refine ⟨M, by omega, g5, ?_⟩
              show (if M = M then b else tr M) = b'
              rw [if_pos rfl]
              omega
            · obtain ⟨c, x1, x2, x3⟩ := q5 q b' u (by omega) z z2
              exact ⟨c, by omega, by rw [g6 c (by omega)]; exact x2, by show (if c = M then b else tr c) = b'; rw [if_neg (by omega)]; exact x3⟩
        · obtain ⟨g1, g2⟩ := c172n (s := s) (a := k) c173n
          rw [w3 cc, gd_pos g1, g2, Option.bind_some]
          refine ih (i + 1) G s M tr (by omega) (by omega) q1 q2 q3 q4 (fun q b' u v z z2 => ?_) (by rw [lsucc, if_neg (show ¬ (T.tk i = 1 ∧ T.tk (i + 1) = 40) from cc)]; omega)
          by_cases e1 : q = i
          · rw [e1] at z; exact absurd z cc
          · exact q5 q b' u (by omega) z z2
    obtain ⟨G, hG⟩ := FU_split (k := (e - (hd' + 1)) + 1) (by omega)
    obtain ⟨s', M', tr', x1, x2, x3, x4, x5, x6, x7⟩ := go (e - (hd' + 1)) (hd' + 1) G s M tr (by omega) (Nat.le_refl _) c1 c2 c3 c4 (fun q b u v => absurd v (by omega)) (by omega)
    rw [show G + (e - (hd' + 1)) + 1 = FU by omega] at x1
    rw [e170 st e hl, Option.bind_some, gd_pos p7, e187, w32_nat (by omega), x1]
    refine ⟨s', M', tr', e, rfl, x2, x3, x4, fun a' b' u ed => ?_, by omega, by omega, fun j u v z => ?_⟩
    · by_cases e1 : a' = k
      · subst e1
        obtain ⟨_, _, hd2, st2, e2, q, hl2, k1, k2, k3, k4⟩ := ed
        have eh : hd2 = hd' := by have := hl2.1; omega
        subst eh
        have ee : e2 = e := hl2.2.2.2.2.2.2.1.uniq l7
        subst ee
        exact x6 q b' k1 k2 k3 k4
      · exact x5 a' b' (by omega) ed
    · have := (lor k hk h2 e (by rw [l2, Int.toNat_natCast]; exact l7)).2 j (by omega) v
      omega
  · obtain ⟨G, hG⟩ := FU_split (k := 1) (by omega)
    rw [e170n h2, Option.bind_some, gd_pos p7, e187, w32_nat (by omega), hG, j_165_75, if_pos (by omega), k96]
    refine ⟨s, M, tr, X, rfl, c1, c2, c3, fun a' b' u ed => ?_, c5, c6, fun j u v z => c7 j (by omega) v z⟩
    by_cases e1 : a' = k
    · subst e1
      obtain ⟨_, _, hd2, st2, e2, q, hl2, -⟩ := ed
      exact absurd hl2.2.2.1 h2
    · exact c4 a' b' (by omega) ed
theorem c165 (h : CKX T sc sm n' t S P A N K C w) (g : GOOD T sc sm S A N w) (n6 : ¬ BD6 T sm S A N) (n7 : ¬ BD7 T sm S A N) (h54 : sc 54 6 = (S : Int)) (hS8 : S ≤ 1171) : ∃ (s' : Sg) (M : Nat) (tr : Nat → Nat), f_165 sc = some s' ∧ CGE T sc sm S s' M tr := by
  have hT := h.1
  have hD := h.2.2.2.1
  have z8 := hT.1
  -- rows are cleared
  have clr : ∀ (r l F : Nat) (s : Sg), l + r = S → RGF sc s → s 74 7 = 0 → (∀ i, i < l → s 75 i = -1 ∧ s 78 i = 0) → ∃ s' : Sg, j_165_7 (F + r + 1) (l : Int) s = j_165_45 s' ∧ RGF sc s' ∧ s' 74 7 = 0 ∧ (∀ i, i < S → s' 75 i = -1 ∧ s' 78 i = 0) := by
    intro r
    induction r with
    | zero =>
      intro l F s hl q1 q2 q3
      exact ⟨s, by rw [j_165_7, q1 54 (by decide), h54, if_pos (by omega)], q1, q2, fun i hi => q3 i (by omega)⟩
    | succ r ih =>
      intro l F s hl q1 q2 q3
      rw [show F + (r + 1) + 1 = (F + r + 1) + 1 by omega, j_165_7, q1 54 (by decide), h54, if_neg (by omega), if_neg (by omega), gd_pos (by omega), gd_pos (by omega), w32_nat (by omega), Int.toNat_natCast]
      refine ih (l + 1) F _ (by omega) (fun c x => by rw [u2_row _ _ _ (by omega), u2_row _ _ _ (by omega)]; exact q1 c x) (by rw [u2_row _ _ _ (by decide), u2_row _ _ _ (by decide)]; exact q2) (fun i hi => ?_)
      by_cases e : i = l
      · rw [e]
        exact ⟨by rw [u2_row _ _ _ (by decide)]; exact u2_same _ _ _ _, u2_same _ _ _ _⟩
      · obtain ⟨x1, x2⟩ := q3 i (by omega)
        exact ⟨by rw [u2_row _ _ _ (by decide), u2_col _ _ _ e]; exact x1, by rw [u2_col _ _ _ e, u2_row _ _ _ (by decide)]; exact x2⟩
  obtain ⟨F, hF⟩ := FU_split (k := S + 1) (by omega)
  obtain ⟨s1, e1, r1, r2, r3⟩ := clr S 0 F (ax_u2 sc 74 7 0) (by omega) (fun c x => u2_row _ _ _ (by omega)) (u2_same _ _ _ _) (fun i hi => absurd hi (by omega))
  rw [show F + S + 1 = FU by omega] at e1
  have go : ∀ (r k G : Nat) (s : Sg) (M : Nat) (tr : Nat → Nat) (X : Nat), k + r = S → CLN T sc sm S k s M tr X → ∃ (s' : Sg) (M' : Nat) (tr' : Nat → Nat) (X' : Nat), j_165_47 (G + r + 1) (k : Int) s = some s' ∧ CLN T sc sm S S s' M' tr' X' := by
    intro r
    induction r with
    | zero =>
      intro k G s M tr X hk cl
      rw [show k = S by omega] at cl ⊢
      exact ⟨s, M, tr, X, by rw [j_165_47, cl.2.1 54 (by decide), h54, if_pos (by omega)], cl⟩
    | succ r ih =>
      intro k G s M tr X hk cl
      obtain ⟨s', M', tr', X', x1, x2⟩ := col_step (F := G + r + 1) h g n6 n7 h54 hS8 (k := k) (by omega) cl
      rw [show G + (r + 1) + 1 = (G + r + 1) + 1 by omega, x1]
      exact ih (k + 1) G s' M' tr' X' (by omega) x2
  have cl0 : CLN T sc sm S 0 s1 0 (fun _ => 0) 0 := by
    refine ⟨⟨r2, fun c hc => absurd hc (by omega), fun b hb => Or.inl ⟨(r3 b hb).1, fun c hc => absurd hc (by omega)⟩, fun a ha => (r3 a ha).2⟩, r1, fun c hc => absurd hc (by omega), fun a b ha => absurd ha (by omega), by omega, by omega, fun j _ hj z => ?_⟩
    obtain ⟨hd, p0, pc, n0, b1, b2, -⟩ := hD.1 j hj
    omega
  obtain ⟨s', M, tr, X, x1, c1, c2, c3, c4, c5, c6, c7⟩ := go S 0 F s1 0 _ 0 (by omega) cl0
  rw [show F + S + 1 = FU by omega] at x1
  refine ⟨s', M, tr, ?_, c1, by omega, c2, c3, fun a b ed => c4 a b ed.1 ed⟩
  unfold f_165
  have e1' : j_165_7 FU 0 (ax_u2 sc 74 7 0) = _ := e1
  rw [e1']
  exact x1
end COL
