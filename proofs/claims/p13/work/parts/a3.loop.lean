/-! ALL STATEMENTS, on both sides. -/
/-- rows that reading may change, a fault of grammar or depth noted -/
def SFe (s s' : Sg) : Prop := (∀ c, ¬ (c = 30 ∨ c = 31 ∨ 36 ≤ c ∧ c ≤ 39 ∨ 45 ≤ c ∧ c ≤ 72) → s' c = s c) ∧ (∀ j, j ≠ 10 → j ≠ 11 → s' 39 j = s 39 j) ∧ (∀ j, j < 2 ∨ 7 < j → s' 30 j = s 30 j) ∧ (∀ j, j ≠ 8 → s' 31 j = s 31 j) ∧ W8 s s'
/-- how reading comes out -/
def POUT (T : TT) (sc0 sm0 : Sg) (w : Nat) (rc rm : Option Sg) : Prop := (∃ (sc' sm' : Sg) (S P A N K C : Nat), rc = some sc' ∧ rm = some sm' ∧ T.tk T.z = 0 ∧ PS0 T sc0 sm0 sc' sm' T.z S P A N K C w) ∨ (∃ sc' mF : Sg, rc = some sc' ∧ rm = some mF ∧ SFe sc0 sc' ∧ (sc' 30 2 ≠ -1 ∨ sc' 30 3 ≠ -1) ∧ SFm sm0 mF ∧ 0 < mF 84 6)
section LOOP
variable {T : TT} {sc0 sm0 sc sm s m : Sg} {a b S P A N K C B D np w F : Nat}
theorem c71g {k : Nat} {p : Int} (hk : k = 2 ∨ k = 3) (hp : 0 ≤ p) : g_71 (k : Int) p s ∧ (f_71 (k : Int) p s) 30 k ≠ -1 ∧ (∀ c, c ≠ 30 → f_71 (k : Int) p s c = s c) ∧ (∀ j, j ≠ k → f_71 (k : Int) p s 30 j = s 30 j) := by
  refine ⟨?_, ?_, fun c hc => ?_, fun j hj => ?_⟩
  · unfold g_71
    exact ⟨fun _ => trivial, fun _ => ⟨fun _ => ⟨by omega, fun _ => ⟨by omega, trivial⟩, fun _ => ⟨by omega, fun _ => trivial, fun _ => ⟨by omega, trivial⟩⟩⟩, fun _ => trivial⟩⟩
  · unfold f_71
    rw [if_neg (by omega), if_pos (by omega), Int.toNat_natCast]
    split
    · rw [u2_same]; omega
    · split
      · assumption
      · rw [u2_same]; omega
  · unfold f_71
    rw [if_neg (by omega), if_pos (by omega), Int.toNat_natCast]
    split
    · exact u2_row _ _ _ hc
    · split
      · rfl
      · exact u2_row _ _ _ hc
  · unfold f_71
    rw [if_neg (by omega), if_pos (by omega), Int.toNat_natCast]
    split
    · exact u2_col _ _ _ hj
    · split
      · rfl
      · exact u2_col _ _ _ hj
theorem h15 (hT : TWF T) (hc : CC T sc0) {x : Nat} (hx : x = 14 ∨ x = 15) (h : BSc T sc0 s) : ∃ sc' : Sg, H_15 (x, s) = some sc' ∧ SFe sc0 sc' ∧ (sc' 30 2 ≠ -1 ∨ sc' 30 3 ≠ -1) := by
  obtain ⟨h1, a, h2⟩ := h
  obtain ⟨c1, c2⟩ := c80 (a := a) (h1.cc hc) hT h2.2.2
  have f0 := hT.2.2.2.1 a h2.2.2
  have mk : ∀ k : Nat, k = 2 ∨ k = 3 → SFe sc0 (f_71 (k : Int) (T.fm a) s) := fun k hk => by
    obtain ⟨d1, d2, d3, d4⟩ := c71g (s := s) hk f0
    exact ⟨fun c x => by rw [d3 c (by omega), h1.1 c x], fun j x y => by rw [d3 39 (by decide), h1.2.1 j x y], fun j x => by rw [d4 j (by omega), h1.2.2.1 j (by omega)], fun j x => by rw [d3 31 (by decide), h1.2.2.2.1 j x], fun y => by rw [d3 31 (by decide)]; exact h1.2.2.2.2 y⟩
  unfold H_15
  rcases hx with rfl | rfl
  · rw [if_neg (show ¬ (14 = 15) by decide), if_pos rfl]
    obtain ⟨d1, d2, d3, d4⟩ := c71g (s := s) (k := 3) (Or.inr rfl) f0
    refine ⟨f_71 3 (T.fm a) s, ?_, mk 3 (Or.inr rfl), Or.inr d2⟩
    unfold j_15_88
    show gd (g_80 (s 39 10) s) (gd (g_71 3 (f_80 (s 39 10) s) s) ((some (f_71 3 (f_80 (s 39 10) s) s)).bind fun q1 => some q1)) = _
    have d1' : g_71 3 (T.fm a) s := d1
    rw [h2.1, gd_pos c2, c1, gd_pos d1', Option.bind_some]
  · rw [if_pos rfl]
    obtain ⟨d1, d2, d3, d4⟩ := c71g (s := s) (k := 2) (Or.inl rfl) f0
    refine ⟨f_71 2 (T.fm a) s, ?_, mk 2 (Or.inl rfl), Or.inl d2⟩
    unfold j_15_62
    show gd (g_80 (s 39 10) s) (gd (g_71 2 (f_80 (s 39 10) s) s) ((some (f_71 2 (f_80 (s 39 10) s) s)).bind fun q1 => some q1)) = _
    have d1' : g_71 2 (T.fm a) s := d1
    rw [h2.1, gd_pos c2, c1, gd_pos d1', Option.bind_some]
/-- neither statement nor end -/
theorem bad_sim (hT : TWF T) (hp : POS T) (h : PS0 T sc0 sm0 sc sm a S P A N K C w) (t : ¬ (17 ≤ T.tk a ∧ T.tk a ≤ 20)) : f_145 sc = some (.inr (15, sc)) ∧ ∃ mF : Sg, f_233 sm = some mF ∧ BSm sm mF := by
  obtain ⟨hB, h70, h19, h7, h37, hnc, htl, hdp⟩ := id h
  obtain ⟨e1, e2, e3, e4, e5, e6, e7, e8, e9, e10, e11, e12, e13, e14, e15, e16, e17, e18, e19, e20, e21, e22, e23, e24, e25, e26, e27, e28, e29, e30, e31⟩ := id hB
  have h8 := hT.1
  have hz := e3.2.2
  have pz := hp.add (k := a) (T.z - a) (by omega)
  rw [show a + (T.z - a) = T.z by omega] at pz
  have p8 := hp.2.2.2
  have hS1 : S < 4100 := by omega
  have hM0 : MC T (HD0 sm S P N) := HD0_sf.mc e2
  have f0 : (HD0 sm S P N) 84 6 = 0 := by rw [HD0_84 (by decide)]; exact e5
  have u0 : (HD0 sm S P N) 84 18 = (a : Int) := by rw [HD0_84 (by decide)]; exact e4
  refine ⟨?_, ?_⟩
  · unfold f_145
    rw [e3.2.1, if_neg (by omega), if_neg (by omega), if_neg (by omega), if_neg (by omega)]
  · have g1 : 0 < (ax_u2 (tel (HD0 sm S P N) 2 a) 94 S 3) 84 6 := by rw [u2_row _ _ _ (by decide), tel_at]; decide
    have g2 : 0 < (ax_u2 (ax_u2 (tel (HD0 sm S P N) 2 a) 94 S 3) 95 S 0) 84 6 := by rw [u2_row _ _ _ (by decide)]; exact g1
    obtain ⟨mF, k1, k2⟩ := fl221 (F := FU) FU1 g2 (S : Int)
    refine ⟨mF, ?_, (((HD0_sf.trans tel_sf).trans (ro_sf (by decide))).trans (ro_sf (by decide))).trans k2.1, k2.2⟩
    unfold f_233
    rw [h19, gd_pos (by omega), gd_pos (by omega), gd_pos (by omega), gd_pos (by omega), gd_pos (by omega), gd_pos (by omega), Int.toNat_natCast, e11, e6.2.1]
    show gd (g_252 31 (HD0 sm S P N)) ((some (f_252 31 (HD0 sm S P N))).bind _) = _
    rw [eatN hM0 hT u0 hz (k := 17) (by decide) (by decide) (by omega)]
    rw [if_neg (by simp), eatN hM0 hT u0 hz (k := 18) (by decide) (by decide) (by omega)]
    rw [if_pos rfl, eatN hM0 hT u0 hz (k := 19) (by decide) (by decide) (by omega)]
    rw [if_pos rfl, takeN hM0 hT f0 u0 hz (k := 20) (by decide) (by decide) (by omega), Option.bind_some, gd_pos (by omega)]
    dsimp only
    rw [takeF g1, Option.bind_some, gd_pos (by omega)]
    exact k1
theorem xc_inl {α β : Type} {x : α} {k : α → Option β} {H : Nat × Sg → Option β} : xc (some (.inl x)) k H = k x := rfl
theorem xc_inr {α β : Type} {x : Nat × Sg} {k : α → Option β} {H : Nat × Sg → Option β} : xc (some (.inr x) : Option (Sum α (Nat × Sg))) k H = H x := rfl
theorem fl28 (hf : 0 < m 84 6) (hF : 1 ≤ F) : j_209_28 F m = some m := by
  obtain ⟨F, rfl⟩ : ∃ k, F = k + 1 := ⟨F - 1, by omega⟩
  rw [j_209_28, if_pos (by omega)]
theorem fl10 (hf : 0 < m 84 6) (hF : 1 ≤ F) (x : Int) : j_254_10 F x m = some m := by
  obtain ⟨F, rfl⟩ : ∃ k, F = k + 1 := ⟨F - 1, by omega⟩
  rw [j_254_10, if_pos (by omega)]
theorem stm_sim (hT : TWF T) (hp : POS T) (hc0 : CC T sc0) (hx : CX T sc0) (n : Nat) :
    (∀ {sc sm : Sg} {a S P A N K C : Nat} (G FR l : Nat), a + n = T.z → PS0 T sc0 sm0 sc sm a S P A N K C w → l ≤ a → n + 2 ≤ G → n + 2 ≤ FR → POUT T sc0 sm0 w (j_15_9 G (l : Int) sc) (j_209_28 FR sm)) ∧
    (∀ {sc sm : Sg} {a S P A N K C B D np : Nat} (G FR F l : Nat), a + n = T.z → PS1 T sc0 sm0 sc sm a S P A N K C B D np w → l ≤ a → n + 2 ≤ G → n + 2 ≤ FR → n + 2 ≤ F → POUT T sc0 sm0 w (j_15_9 G (l : Int) sc) (((j_254_10 F (S : Int) sm).bind fun q => j_233_359 (S : Int) q).bind fun q4 => j_209_28 FR q4)) := by
  have h8 := hT.1
  induction n using Nat.strongRecOn with
  | _ n ih =>
  constructor
  · intro sc sm a S P A N K C G FR l hn h hl hG hF
    obtain ⟨G, rfl⟩ : ∃ k, G = k + 1 := ⟨G - 1, by omega⟩
    obtain ⟨FR, rfl⟩ : ∃ k, FR = k + 1 := ⟨FR - 1, by omega⟩
    obtain ⟨hB, h70, h19, h7, h37, hnc, htl, hdp⟩ := id h
    obtain ⟨e1, e2, e3, e4, e5, e6, e7, e8, e9, e10, e11, e12, e13, e14, e15, e16, -⟩ := id hB
    have hz := e3.2.2
    have fail : ∀ (x : Nat) (s' mF : Sg), f_145 sc = some (.inr (x, s')) → (x = 14 ∨ x = 15) → BSc T sc s' → f_233 sm = some mF → BSm sm mF → T.tk a ≠ 0 → POUT T sc0 sm0 w (j_15_9 (G + 1) (l : Int) sc) (j_209_28 (FR + 1) sm) := by
      intro x s' mF k1 k2 k3 k4 k5 k0
      obtain ⟨sc', q1, q2, q3⟩ := h15 (s := s') hT hc0 k2 ⟨e15.trans k3.1, k3.2⟩
      refine Or.inr ⟨sc', mF, ?_, ?_, q2, q3, e16.trans k5.1, k5.2⟩
      · rw [j_15_9, if_neg (by omega), if_neg (by unfold f_142; rw [h70, if_neg (by decide), e3.2.1, if_pos k0]; decide), if_pos (by unfold f_143; rw [if_pos (by omega)]), k1, xc_inr]
        exact q1
      · obtain ⟨y1, y2⟩ := is_n e2 hT e4 hz (k := 0) (K := 0) (by decide) (by decide) k0
        rw [j_209_28, if_neg (by rw [e5]; decide), gd_pos y2, y1, if_neg (by decide), k4, Option.bind_some]
        exact fl28 k5.2 (by omega)
    have good : ∀ {sc' sm' : Sg} {a' S' P' A' N' K' C' : Nat}, f_145 sc = some (.inl sc') → f_233 sm = some sm' → a < a' → PS0 T sc0 sm0 sc' sm' a' S' P' A' N' K' C' w → T.tk a ≠ 0 → POUT T sc0 sm0 w (j_15_9 (G + 1) (l : Int) sc) (j_209_28 (FR + 1) sm) := by
      intro sc' sm' a' S' P' A' N' K' C' k1 k2 k3 k4 k0
      have hz' := k4.1.2.2.1.2.2
      obtain ⟨y1, y2⟩ := is_n e2 hT e4 hz (k := 0) (K := 0) (by decide) (by decide) k0
      have r1 : j_15_9 (G + 1) (l : Int) sc = j_15_9 G ((l + 1 : Nat) : Int) sc' := by
        rw [j_15_9, if_neg (by omega), if_neg (by unfold f_142; rw [h70, if_neg (by decide), e3.2.1, if_pos k0]; decide), if_pos (by unfold f_143; rw [if_pos (by omega)]), k1, xc_inl, w32_nat (by omega)]
      have r2 : j_209_28 (FR + 1) sm = j_209_28 FR sm' := by
        rw [j_209_28, if_neg (by rw [e5]; decide), gd_pos y2, y1, if_neg (by decide), k2, Option.bind_some]
      rw [r1, r2]
      exact (ih (T.z - a') (by omega)).1 G FR (l + 1) (by omega) k4 (by omega) (by omega) (by omega)
    by_cases k0 : T.tk a = 0
    · left
      have ea : a = T.z := by
        apply Decidable.byContradiction
        intro hne
        exact (hT.2.2.1 a (by omega)).2 k0
      obtain ⟨y1, y2⟩ := is_y e2 hT e4 hz (k := 0) (K := 0) (by decide) k0
      refine ⟨sc, sm, S, P, A, N, K, C, ?_, ?_, hT.2.1, by rw [← ea]; exact h⟩
      · rw [j_15_9, if_neg (by omega), if_pos (by unfold f_142; rw [h70, if_neg (by decide), e3.2.1, if_neg (by rw [k0]; decide)]; decide)]
      · rw [j_209_28, if_neg (by rw [e5]; decide), gd_pos y2, y1, if_pos (by decide)]
    by_cases k17 : T.tk a = 17 ∨ T.tk a = 18
    · rcases regmem_sim hT hp h k17 with ⟨sc', sm', a', x1, x2, x3, x4⟩ | ⟨x, s', mF, x1, x2, x3, x4, x5⟩
      · exact good x1 x2 x3 x4 k0
      · exact fail x s' mF x1 x2 x3 x4 x5 k0
    by_cases k19 : T.tk a = 19
    · rcases def_sim hT hp h k19 with ⟨sc', sm', a', P', N', K', x1, x2, x3, x4⟩ | ⟨x, s', mF, x1, x2, x3, x4, x5⟩
      · exact good x1 x2 x3 x4 k0
      · exact fail x s' mF x1 x2 x3 x4 x5 k0
    by_cases k20 : T.tk a = 20
    · rcases ins_run hT hp (e15.cx hx) h k20 with ⟨s1, scp, mp, J, B, b, t1, x1, x2, x3, x4, x5, x6, x7, x8⟩ | ⟨x, s', mF, x1, x2, x3, x4, x5⟩
      · have p1 := ins_ps1 hT hp h k20 t1 x1 x2 x3 x4 x5 x6
        have ab := (x3.tks t1).2.2
        have zb := p1.1.2.2.1.2.2
        obtain ⟨y1, y2⟩ := is_n e2 hT e4 hz (k := 0) (K := 0) (by decide) (by decide) k0
        have r1 : j_15_9 (G + 1) (l : Int) sc = j_15_9 G ((l + 1 : Nat) : Int) (OBc T scp 0 20 0 b) := by
          rw [j_15_9, if_neg (by omega), if_neg (by unfold f_142; rw [h70, if_neg (by decide), e3.2.1, if_pos k0]; decide), if_pos (by unfold f_143; rw [if_pos (by omega)]), x7, xc_inl, w32_nat (by omega)]
          rfl
        have r2 : j_209_28 (FR + 1) sm = (((j_254_10 FU (S : Int) (OBm (ax_u2 mp 84 43 0) 0 0 b)).bind fun q => j_233_359 (S : Int) q).bind fun q4 => j_209_28 FR q4) := by
          rw [j_209_28, if_neg (by rw [e5]; decide), gd_pos y2, y1, if_neg (by decide), x8]
        rw [r1, r2]
        exact (ih (T.z - (b + 1)) (by omega)).2 G FR FU (l + 1) (by omega) p1 (by omega) (by omega) (by omega) (by unfold FU; omega)
      · exact fail x s' mF x1 x2 x3 x4 x5 k0
    · obtain ⟨x1, mF, x2, x3⟩ := bad_sim hT hp h (by omega)
      exact fail 15 sc mF x1 (Or.inr rfl) ⟨SFc.refl _, _, e3⟩ x2 x3 k0
  · intro sc sm a S P A N K C B D np G FR F l hn h hl hG hF hF2
    obtain ⟨G, rfl⟩ : ∃ k, G = k + 1 := ⟨G - 1, by omega⟩
    obtain ⟨F, rfl⟩ : ∃ k, F = k + 1 := ⟨F - 1, by omega⟩
    obtain ⟨h1, h2, h3, h4⟩ := id h
    obtain ⟨e1, e2, e3, e4, e5, e6, e7, e8, e9, e10, e11, e12, e13, e14, e15, e16, -⟩ := id h1
    obtain ⟨b1, b2, b3, b4, -⟩ := id h2
    have hz := e3.2.2
    have r0 : j_15_9 (G + 1) (l : Int) sc = xc (f_144 sc) (fun q1 => j_15_9 G (ax_w32 ((l : Int) + 1)) q1) H_15 := by
      rw [j_15_9, if_neg (by omega), if_neg (by unfold f_142; rw [b1, if_pos (by omega)]; decide), if_neg (by unfold f_143; rw [b1, if_neg (by omega)]; decide)]
    have fail : ∀ (x : Nat) (s' mF : Sg), f_144 sc = some (.inr (x, s')) → (x = 14 ∨ x = 15) → BSc T sc s' → j_254_10 (F + 1) (S : Int) sm = j_254_10 F (S : Int) mF → BSm sm mF → POUT T sc0 sm0 w (j_15_9 (G + 1) (l : Int) sc) (((j_254_10 (F + 1) (S : Int) sm).bind fun q => j_233_359 (S : Int) q).bind fun q4 => j_209_28 FR q4) := by
      intro x s' mF k1 k2 k3 k4 k5
      obtain ⟨sc', q1, q2, q3⟩ := h15 (s := s') hT hc0 k2 ⟨e15.trans k3.1, k3.2⟩
      refine Or.inr ⟨sc', mF, by rw [r0, k1, xc_inr]; exact q1, ?_, q2, q3, e16.trans k5.1, k5.2⟩
      rw [k4, fl10 k5.2 (by omega), Option.bind_some, fl359 k5.2, Option.bind_some]
      exact fl28 k5.2 (by omega)
    have good : ∀ {sc' sm' : Sg} {a' A' N' K' C' B' D' : Nat}, f_144 sc = some (.inl sc') → j_254_10 (F + 1) (S : Int) sm = j_254_10 F (S : Int) sm' → a < a' → PS1 T sc0 sm0 sc' sm' a' S P A' N' K' C' B' D' np w → POUT T sc0 sm0 w (j_15_9 (G + 1) (l : Int) sc) (((j_254_10 (F + 1) (S : Int) sm).bind fun q => j_233_359 (S : Int) q).bind fun q4 => j_209_28 FR q4) := by
      intro sc' sm' a' A' N' K' C' B' D' k1 k2 k3 k4
      have hz' := k4.1.2.2.1.2.2
      rw [r0, k1, xc_inl, w32_nat (by omega), k2]
      exact (ih (T.z - a') (by omega)).2 G FR F (l + 1) (by omega) k4 (by omega) (by omega) (by omega) (by omega)
    by_cases t : T.tk a = 125
    · rcases cls_sim hT hp h t F with ⟨sc', sm', a', B', D', x1, x2, x3, x4⟩ | ⟨sc', m0, sm', x1, x2, x3, x4, x5, x6⟩ | ⟨x, s', mF, x1, x2, x3, x4, x5⟩
      · exact good x1 x2 x3 x4
      · have hz' := x6.1.2.2.1.2.2
        obtain ⟨F, rfl⟩ : ∃ k, F = k + 1 := ⟨F - 1, by omega⟩
        rw [r0, x1, xc_inl, w32_nat (by omega), x2, j_254_10, if_neg (by rw [x3]; decide), if_pos (by omega), Option.bind_some, x5, Option.bind_some]
        exact (ih (T.z - (a + 1)) (by omega)).1 G FR (l + 1) (by omega) x6 (by omega) (by omega) (by omega)
      · exact fail x s' mF x1 x2 x3 x4 x5
    · have r1 : j_254_10 (F + 1) (S : Int) sm = (f_259 (S : Int) sm).bind fun q3 => j_254_10 F (S : Int) q3 := by
        rw [j_254_10, if_neg (by rw [e5]; decide), if_neg (by rw [b2]; omega), eatN e2 hT e4 hz (k := 125) (by decide) (by decide) t]
        rw [if_pos rfl]
      rcases act_sim hT hp h t with ⟨sc', sm', a', A', N', K', C', B', D', x1, x2, x3, x4⟩ | ⟨x, s', mF, x1, x2, x3, x4, x5⟩
      · exact good x1 (by rw [r1, x2, Option.bind_some]) x3 x4
      · exact fail x s' mF x1 x2 x3 (by rw [r1, x4, Option.bind_some]) x5
end LOOP
