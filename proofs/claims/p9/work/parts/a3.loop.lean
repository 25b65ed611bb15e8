/-! ALL STATEMENTS, on both sides. -/
/-- rows that reading may change, a fault of grammar or depth noted -/
def SFe (s s' : Sg) : Prop := (∀ c, ¬ (c = 30 ∨ c = 31 ∨ 36 ≤ c ∧ c ≤ 39 ∨ 45 ≤ c ∧ c ≤ 72) → s' c = s c) ∧ (∀ j, j ≠ 10 → j ≠ 11 → s' 39 j = s 39 j) ∧ (∀ j, j < 2 ∨ 7 < j → s' 30 j = s 30 j) ∧ (∀ j, j ≠ 8 → s' 31 j = s 31 j) ∧ W8 s s'
/-- how reading comes out -/
def POUT (T : TT) (sc0 sm0 : Sg) (w : Nat) (rc rm : Option Sg) : Prop := (∃ (sc' sm' : Sg) (S P A N K C : Nat), rc = some sc' ∧ rm = some sm' ∧ T.tk T.z = 0 ∧ PS0 T sc0 sm0 sc' sm' T.z S P A N K C w) ∨ (∃ sc' mF : Sg, rc = some sc' ∧ rm = some mF ∧ SFe sc0 sc' ∧ (sc' 30 2 ≠ -1 ∨ sc' 30 3 ≠ -1) ∧ SFm sm0 mF ∧ 0 < mF 84 6)
section LOOP
variable {T : TT} {sc0 sm0 sc sm s m : Sg} {a b S P A N K C B D np w F : Nat}
theorem c71g {k : Nat} {p : Int} (hk : k = 2 ∨ k = 3) (hp : 0 ≤ p) : g_71 (k : Int) p s ∧ (f_71 (k : Int) p s) 30 k ≠ -1 ∧ (∀ c, c ≠ 30 → f_71 (k : Int) p s c = s c) ∧ (∀ j, j ≠ k → f_71 (k : Int) p s 30 j = s 30 j) := by
  refine ⟨?_, ?_, fun c hc => ?_, fun j hj => ?_⟩
  · unfold g_71
    exact ⟨fun _ => trivial, fun _ => ⟨fun _ => ⟨by omega, fun _ => ⟨by omega, trivial⟩, fun _ => ⟨by omega, fun _ => trivial, fun _ => ⟨by omega, trivial⟩⟩⟩, fun _ => trivial⟩⟩
  · unfold f_71
    rw [if_neg (by omega), if_pos (by omega), Int.toNat_natCast]
    split
    · rw [u2_same]; omega
    · split
      · assumption
      · rw [u2_same]; omega
  · unfold f_71
    rw [if_neg (by omega), if_pos (by omega), Int.toNat_natCast]
    split
    · exact u2_row _ _ _ hc
    · split
      · rfl
      · exact u2_row _ _ _ hc
  · unfold f_71
    rw [if_neg (by omega), if_pos (by omega), Int.toNat_natCast]
    split
    · exact u2_col _ _ _ hj
    · split
      · rfl
      · exact u2_col _ _ _ hj
theorem h15 (hT : TWF T) (hc : CC T sc0) {x : Nat} (hx : x = 14 ∨ x = 15) (h : BSc T sc0 s) : ∃ sc' : Sg, H_15 (x, s) = some sc' ∧ SFe sc0 sc' ∧ (sc' 30 2 ≠ -1 ∨ sc' 30 3 ≠ -1) := by
  obtain ⟨h1, a, h2⟩ := h
  obtain ⟨c1, c2⟩ := c80 (a := a) (h1.cc hc) hT h2.2.2
  have f0 := hT.2.2.2.1 a h2.2.2
  have mk : ∀ k : Nat, k = 2 ∨ k = 3 → SFe sc0 (f_71 (k : Int) (T.fm a) s) := fun k hk => by
    obtain ⟨d1, d2, d3, d4⟩ := c71g (s := s) hk f0
    exact ⟨fun c x => by rw [d3 c (by omega), h1.1 c x], fun j x y => by rw [d3 39 (by decide), h1.2.1 j x y], fun j x => by rw [d4 j (by omega), h1.2.2.1 j (by omega)], fun j x => by rw [d3 31 (by decide), h1.2.2.2.1 j x], fun y => by rw [d3 31 (by decide)]; exact h1.2.2.2.2 y⟩
  unfold H_15
  rcases hx with rfl | rfl
  · rw [if_neg (show ¬ (14 = 15) by decide), if_pos rfl]
    obtain ⟨d1, d2, d3, d4⟩ := c71g (s := s) (k := 3) (Or.inr rfl) f0
    refine ⟨f_71 3 (T.fm a) s, ?_, mk 3 (Or.inr rfl), Or.inr d2⟩
    unfold j_15_88
    show gd (g_80 (s 39 10) s) (gd (g_71 3 (f_80 (s 39 10) s) s) ((some (f_71 3 (f_80 (s 39 10) s) s)).bind fun q1 => some q1)) = _
    have d1' : g_71 3 (T.fm a) s := d1
    rw [h2.1, gd_pos c2, c1, gd_pos d1', Option.bind_some]
  · rw [if_pos rfl]
    obtain ⟨d1, d2, d3, d4⟩ := c71g (s := s) (k := 2) (Or.inl rfl) f0
    refine ⟨f_71 2 (T.fm a) s, ?_, mk 2 (Or.inl rfl), Or.inl d2⟩
    unfold j_15_62
    show gd (g_80 (s 39 10) s) (gd (g_71 2 (f_80 (s 39 10) s) s) ((some (f_71 2 (f_80 (s 39 10) s) s)).bind fun q1 => some q1)) = _
    have d1' : g_71 2 (T.fm a) s := d1
    rw [h2.1, gd_pos c2, c1, gd_pos d1', Option.bind_some]
/-- neither statement nor end -/
theorem bad_sim (hT : TWF T) (hp : POS T) (h : PS0 T sc0 sm0 sc sm a S P A N K C w) (t : ¬ (17 ≤ T.tk a ∧ T.tk a ≤ 20)) : f_145 sc = some (.inr (15, sc)) ∧ ∃ mF : Sg, f_233 sm = some mF ∧ BSm sm mF := by
  obtain ⟨hB, h70, h19, h7, h37, hnc, htl, hdp⟩ := id h
  obtain ⟨e1, e2, e3, e4, e5, e6, e7, e8, e9, e10, e11, e12, e13, e14, e15, e16, e17, e18, e19, e20, e21, e22, e23, e24, e25, e26, e27, e28, e29, e30, e31⟩ := id hB
  have h8 := hT.1
  have hz := e3.2.2
  have pz := hp.add (k := a) (T.z - a) (by omega)
  rw [show a + (T.z - a) = T.z by omega] at pz
  have p8 := hp.2.2.2
  have hS1 : S < 4100 := by omega
  have hM0 : MC T (HD0 sm S P N) := HD0_sf.mc e2
  have f0 : (HD0 sm S P N) 84 6 = 0 := by rw [HD0_84 (by decide)]; exact e5
  have u0 : (HD0 sm S P N) 84 18 = (a : Int) := by rw [HD0_84 (by decide)]; exact e4
  refine ⟨?_, ?_⟩
  · unfold f_145
    rw [e3.2.1, if_neg (by omega), if_neg (by omega), if_neg (by omega), if_neg (by omega)]
  · have g1 : 0 < (ax_u2 (tel (HD0 sm S P N) 2 a) 94 S 3) 84 6 := by rw [u2_row _ _ _ (by decide), tel_at]; decide
    have g2 : 0 < (ax_u2 (ax_u2 (tel (HD0 sm S P N) 2 a) 94 S 3) 95 S 0) 84 6 := by rw [u2_row _ _ _ (by decide)]; exact g1
    obtain ⟨mF, k1, k2⟩ := fl221 (F := FU) FU1 g2 (S : Int)
    refine ⟨mF, ?_, (((HD0_sf.trans tel_sf).trans (ro_sf (by decide))).trans (ro_sf (by decide))).trans k2.1, k2.2⟩
    unfold f_233
    rw [h19, gd_pos (by omega), gd_pos (by omega), gd_pos (by omega), gd_pos (by omega), gd_pos (by omega), gd_pos (by omega), Int.toNat_natCast, e11, e6.2.1]
    show gd (g_252 31 (HD0 sm S P N)) ((some (f_252 31 (HD0 sm S P N))).bind _) = _
    rw [eatN hM0 hT u0 hz (k := 17) (by decide) (by decide) (by omega)]
    rw [if_neg (by simp), eatN hM0 hT u0 hz (k := 18) (by decide) (by decide) (by omega)]
    rw [if_pos rfl, eatN hM0 hT u0 hz (k := 19) (by decide) (by decide) (by omega)]
    rw [if_pos rfl, takeN hM0 hT f0 u0 hz (k := 20) (by decide) (by decide) (by omega), Option.bind_some, gd_pos (by omega)]
    dsimp only
    rw [takeF g1, Option.bind_some, gd_pos (by omega)]
    exact k1
theorem xc_inl {α β : Type} {x : α} {k : α → Option β} {H : Nat × Sg → Option β} : xc (some (.inl x)) k H = k x := rfl
theorem xc_inr {α β : Type} {x : Nat × Sg} {k : α → Option β} {H : Nat × Sg → Option β} : xc (some (.inr x) : Option (Sum α (Nat × Sg))) k H = H x := rfl
theorem fl28 (hf : 0 < m 84 6) (hF : 1 ≤ F) : j_209_28 F m = some m := by
  obtain ⟨F, rfl⟩ : ∃ k, F = k + 1 := ⟨F - 1, by omega⟩
  rw [j_209_28, if_pos (by omega)]
theorem fl10 (hf : 0 < m 84 6) (hF : 1 ≤ F) (x : Int) : j_254_10 F x m = some m := by
  obtain ⟨F, rfl⟩ : ∃ k, F = k + 1 := ⟨F - 1, by omega⟩
  rw [j_254_10, if_pos (by omega)]
theorem stm_sim (hT : TWF T) (hp : POS T) (hc0 : CC T sc0) (hx : CX T sc0) (n : Nat) :
    (∀ {sc sm : Sg} {a S P A N K C : Nat} (G FR l : Nat), a + n = T.z → PS0 T sc0 sm0 sc sm a S P A N K C w → l ≤ a → n + 2 ≤ G → n + 2 ≤ FR → POUT T sc0 sm0 w (j_15_9 G (l : Int) sc) (j_209_28 FR sm)) ∧
    (∀ {sc sm : Sg} {a S P A N K C B D np : Nat} (G FR F l : Nat), a + n = T.z → PS1 T sc0 sm0 sc sm a S P A N K C B D np w → l ≤ a → n + 2 ≤ G → n + 2 ≤ FR → n + 2 ≤ F → POUT T sc0 sm0 w (j_15_9 G (l : Int) sc) (((j_254_10 F (S : Int) sm).bind fun q => j_233_359 (S : Int) q).bind fun q4 => j_209_28 FR q4)) := by
  have h8 := hT.1
  induction n using Nat.strongRecOn with
  | _ n ih =>
  constructor
  · intro sc sm a S P A N K C G FR l hn h hl hG hF
    obtain ⟨G, rfl⟩ : ∃ k, G = k + 1 := ⟨G - 1, by omega⟩
    obtain ⟨FR, rfl⟩ : ∃ k, FR = k + 1 := ⟨FR - 1, by omega⟩
    obtain ⟨hB, h70, h19, h7, h37, hnc, htl, hdp⟩ := id h
    obtain ⟨e1, e2, e3, e4, e5, e6, e7, e8, e9, e10, e11, e12, e13, e14, e15, e16, -⟩ := id hB
    have hz := e3.2.2
    have fail : ∀ (x : Nat) (s' mF : Sg), f_145 sc = some (.inr (x, s')) → (x = 14 ∨ x = 15) → BSc T sc s' → f_233 sm = some mF → BSm sm mF → T.tk a ≠ 0 → POUT T sc0 sm0 w (j_15_9 (G + 1) (l : Int) sc) (j_209_28 (FR + 1) sm) := by
      intro x s' mF k1 k2 k3 k4 k5 k0
      obtain ⟨sc', q1, q2, q3⟩ := h15 (s := s') hT hc0 k2 ⟨e15.trans k3.1, k3.2⟩
      refine Or.inr ⟨sc', mF, ?_, ?_, q2, q3, e16.trans k5.1, k5.2⟩
      · rw [j_15_9, if_neg (by omega), if_neg (by unfold f_142; rw [h70, if_neg (by decide), e3.2.1, if_pos k0]; decide), if_pos (by unfold f_143; rw [if_pos (by omega)]), k1, xc_inr]
        exact q1
      · obtain ⟨y1, y2⟩ := is_n e2 hT e4 hz (k := 0) (K := 0) (by decide) (by decide) k0
        rw [j_209_28, if_neg (by rw [e5]; decide), gd_pos y2, y1, if_neg (by decide), k4, Option.bind_some]
        exact fl28 k5.2 (by omega)
    have good : ∀ {sc' sm' : Sg} {a' S' P' A' N' K' C' : Nat}, f_145 sc = some (.inl sc') → f_233 sm = some sm' → a < a' → PS0 T sc0 sm0 sc' sm' a' S' P' A' N' K' C' w → T.tk a ≠ 0 → POUT T sc0 sm0 w (j_15_9 (G + 1) (l : Int) sc) (j_209_28 (FR + 1) sm) := by
      intro sc' sm' a' S' P' A' N' K' C' k1 k2 k3 k4 k0
      have hz' := k4.1.2.2.1.2.2
      obtain ⟨y1, y2⟩ := is_n e2 hT e4 hz (k := 0) (K := 0) (by decide) (by decide) k0
      have r1 : j_15_9 (G + 1) (l : Int) sc = j_15_9 G ((l + 1 : Nat) : Int) sc' := by
        rw [j_15_9, if_neg (by omega), if_neg (by unfold f_142; rw [h70, if_neg (by decide), e3.2.1, if_pos k0]; decide), if_pos (by unfold f_143; rw [if_pos (by omega)]), k1, xc_inl, w32_nat (by omega)]
      have r2 : j_209_28 (FR + 1) sm = j_209_28 FR sm' := by
        rw [j_209_28, if_neg (by rw [e5]; decide), gd_pos y2, y1, if_neg (by decide), k2, Option.bind_some]
      rw [r1, r2]
      exact (ih (T.z - a') (by omega)).1 G FR (l + 1) (by omega) k4 (by omega) (by omega) (by omega)
    by_cases k0 : T.tk a = 0
    · left
      have ea : a = T.z := by
        apply Decidable.byContradiction
        intro hne
        exact (hT.2.2.1 a (by omega)).2 k0
      obtain ⟨y1, y2⟩ := is_y e2 hT e4 hz (k := 0) (K := 0) (by decide) k0
      refine ⟨sc, sm, S, P, A, N, K, C, ?_, ?_, hT.2.1, by rw [← ea]; exact h⟩
      · rw [j_15_9, if_neg (by omega), if_pos (by unfold f_142; rw [h70, if_neg (by decide), e3.2.1, if_neg (by rw [k0]; decide)]; decide)]
      · rw [j_209_28, if_neg (by rw [e5]; decide), gd_pos y2, y1, if_pos (by decide)]
    by_cases k17 : T.tk a = 17 ∨ T.tk a = 18
    · rcases regmem_sim hT hp h k17 with ⟨sc', sm', a', x1, x2, x3, x4⟩ | ⟨x, s', mF, x1, x2, x3, x4, x5⟩
      · exact good x1 x2 x3 x4 k0
      · exact fail x s' mF x1 x2 x3 x4 x5 k0
    by_cases k19 : T.tk a = 19
    · rcases def_sim hT hp h k19 with ⟨sc', sm', a', P', N', K', x1, x2, x3, x4⟩ | ⟨x, s', mF, x1, x2, x3, x4, x5⟩
      · exact good x1 x2 x3 x4 k0
      · exact fail x s' mF x1 x2 x3 x4 x5 k0
    by_cases k20 : T.tk a = 20
    · rcases ins_run hT hp (e15.cx hx) h k20 with ⟨s1, scp, mp, J, B, b, t1, x1, x2, x3, x4, x5, x6, x7, x8⟩ | ⟨x, s', mF, x1, x2, x3, x4, x5⟩
      · have p1 := ins_ps1 hT hp h k20 t1 x1 x2 x3 x4 x5 x6
        have ab := (x3.tks t1).2.2
        have zb := p1.1.2.2.1.2.2
        obtain ⟨y1, y2⟩ := is_n e2 hT e4 hz (k := 0) (K := 0) (by decide) (by decide) k0
        have r1 : j_15_9 (G + 1) (l : Int) sc = j_15_9 G ((l + 1 : Nat) : Int) (OBc T scp 0 20 0 b) := by
          rw [j_15_9, if_neg (by omega), if_neg (by unfold f_142; rw [h70, if_neg (by decide), e3.2.1, if_pos k0]; decide), if_pos (by unfold f_143; rw [if_pos (by omega)]), x7, xc_inl, w32_nat (by omega)]
          rfl
        have r2 : j_209_28 (FR + 1) sm = (((j_254_10 FU (S : Int) (OBm (ax_u2 mp 84 43 0) 0 0 b)).bind fun q => j_233_359 (S : Int) q).bind fun q4 => j_209_28 FR q4) := by
          rw [j_209_28, if_neg (by rw [e5]; decide), gd_pos y2, y1, if_neg (by decide), x8]
        rw [r1, r2]
        exact (ih (T.z - (b + 1)) (by omega)).2 G FR FU (l + 1) (by omega) p1 (by omega) (by omega) (by omega) (by unfold FU; omega)
      · exact fail x s' mF x1 x2 x3 x4 x5 k0
    · obtain ⟨x1, mF, x2, x3⟩ := bad_sim hT hp h (by omega)
      exact fail 15 sc mF x1 (Or.inr rfl) ⟨SFc.refl _, _, e3⟩ x2 x3 k0
  · intro sc sm a S P A N K C B D np G FR F l hn h hl hG hF hF2
    obtain ⟨G, rfl⟩ : ∃ k, G = k + 1 := ⟨G - 1, by omega⟩
    obtain ⟨F, rfl⟩ : ∃ k, F = k + 1 := ⟨F - 1, by omega⟩
    obtain ⟨h1, h2, h3, h4⟩ := id h
    obtain ⟨e1, e2, e3, e4, e5, e6, e7, e8, e9, e10, e11, e12, e13, e14, e15, e16, -⟩ := id h1
    obtain ⟨b1, b2, b3, b4, -⟩ := id h2
    have hz := e3.2.2
    have r0 : j_15_9 (G + 1) (l : Int) sc = xc (f_144 sc) (fun q1 => j_15_9 G (ax_w32 ((l : Int) + 1)) q1) H_15 := by
      rw [j_15_9, if_neg (by omega), if_neg (by unfold f_142; rw [b1, if_pos (by omega)]; decide), if_neg (by unfold f_143; rw [b1, if_neg (by omega)]; decide)]
    have fail : ∀ (x : Nat) (s' mF : Sg), f_144 sc = some (.inr (x, s')) → (x = 14 ∨ x = 15) → BSc T sc s' → j_254_10 (F + 1) (S : Int) sm = j_254_10 F (S : Int) mF → BSm sm mF → POUT T sc0 sm0 w (j_15_9 (G + 1) (l : Int) sc) (((j_254_10 (F + 1) (S : Int) sm).bind fun q => j_233_359 (S : Int) q).bind fun q4 => j_209_28 FR q4) := by
      intro x s' mF k1 k2 k3 k4 k5
      obtain ⟨sc', q1, q2, q3⟩ := h15 (s := s') hT hc0 k2 ⟨e15.trans k3.1, k3.2⟩
      refine Or.inr ⟨sc', mF, by rw [r0, k1, xc_inr]; exact q1, ?_, q2, q3, e16.trans k5.1, k5.2⟩
      rw [k4, fl10 k5.2 (by omega), Option.bind_some, fl359 k5.2, Option.bind_some]
      exact fl28 k5.2 (by omega)
    have good : ∀ {sc' sm' : Sg} {a' A' N' K' C' B' D' : Nat}, f_144 sc = some (.inl sc') → j_254_10 (F + 1) (S : Int) sm = j_254_10 F (S : Int) sm' → a < a' → PS1 T sc0 sm0 sc' sm' a' S P A' N' K' C' B' D' np w → POUT T sc0 sm0 w (j_15_9 (G + 1) (l : Int) sc) (((j_254_10 (F + 1) (S : Int) sm).bind fun q => j_233_359 (S : Int) q).bind fun q4 => j_209_28 FR q4) := by
      intro sc' sm' a' A' N' K' C' B' D' k1 k2 k3 k4
      have hz' := k4.1.2.2.1.2.2
      rw [r0, k1, xc_inl, w32_nat (by omega), k2]
      exact (ih (T.z - a') (by omega)).2 G FR F (l + 1) (by omega) k4 (by omega) (by omega) (by omega) (by omega)
    by_cases t : T.tk a = 125
    · rcases cls_sim hT hp h t F with ⟨sc', sm', a', B', D', x1, x2, x3, x4⟩ | ⟨sc', m0, sm', x1, x2, x3, x4, x5, x6⟩ | ⟨x, s', mF, x1, x2, x3, x4, x5⟩
      · exact good x1 x2 x3 x4
      · have hz' := x6.1.2.2.1.2.2
        obtain ⟨F, rfl⟩ : ∃ k, F = k + 1 := ⟨F - 1, by omega⟩
        rw [r0, x1, xc_inl, w32_nat (by omega), x2, j_254_10, if_neg (by rw [x3]; decide), if_pos (by omega), Option.bind_some, x5, Option.bind_some]
        exact (ih (T.z - (a + 1)) (by omega)).1 G FR (l + 1) (by omega) x6 (by omega) (by omega) (by omega)
      · exact fail x s' mF x1 x2 x3 x4 x5
    · have r1 : j_254_10 (F + 1) (S : Int) sm = (f_259 (S : Int) sm).bind fun q3 => j_254_10 F (S : Int) q3 := by
        rw [j_254_10, if_neg (by rw [e5]; decide), if_neg (by rw [b2]; omega), eatN e2 hT e4 hz (k := 125) (by decide) (by decide) t]
        rw [if_pos rfl]
      rcases act_sim hT hp h t with ⟨sc', sm', a', A', N', K', C', B', D', x1, x2, x3, x4⟩ | ⟨x, s', mF, x1, x2, x3, x4, x5⟩
      · exact good x1 (by rw [r1, x2, Option.bind_some]) x3 x4
      · exact fail x s' mF x1 x2 x3 (by rw [r1, x4, Option.bind_some]) x5
end LOOP
/-! THE WHOLE TEXT is read, on both sides. -/
/-- behind cutting -/
def IN0 (T : TT) (sc sm : Sg) : Prop := CC T sc ∧ MC T sm ∧ CU T sc 0 ∧ sm 84 6 = 0 ∧ sc 46 7 = 0 ∧ sm 84 47 = 0 ∧ sm 84 57 = 0 ∧ sc 66 7 = 0 ∧ (∀ k, k < T.z → FRS T sc sm k) ∧ sc 54 6 = 0 ∧ sm 84 19 = 0 ∧ sm 84 31 = 0 ∧ sm 84 34 = 0 ∧ sc 61 4 = 0 ∧ sc 31 8 = 0 ∧ sc 70 9 = 0 ∧ CN sc ∧ (∀ id, IDN T id → sc 36 id = -1 ∧ sc 37 id = 0) ∧ CX T sc
section WORDL
variable {T : TT} {sc sm : Sg}
theorem all_sim (hT : TWF T) (hp : POS T) (h : IN0 T sc sm) : POUT T sc sm 1 (f_15 sc) (f_209 sm) := by
  obtain ⟨h1, h2, h3, h4, h5, h6, h7, h8, h9, h10, h11, h12, h13, h14, h15', h16, h17, h18, h19⟩ := h
  have hz8 := hT.1
  obtain ⟨m0, hm0⟩ : ∃ s : Sg, s = adv sm 0 := ⟨_, rfl⟩
  have sg0 : SFm sm m0 := by rw [hm0]; exact adv_sf
  have f0 : m0 84 6 = 0 := by rw [hm0, adv_col (by decide)]; exact h4
  have u0 : m0 84 18 = ((0 : Nat) : Int) := by rw [hm0]; exact adv_at
  have rm : f_209 sm = (f_231 30 m0).bind fun q1 => (f_231 2 q1.2).bind fun q2 => (f_231 7 (ax_u2 q2.2 84 30 q2.1)).bind fun q3 => j_209_28 FU q3.2 := by rw [hm0]; rfl
  have fail : ∀ (s' mF : Sg), f_141 sc = some (.inr (15, s')) → BSc T sc s' → f_209 sm = some mF → BSm sm mF → POUT T sc sm 1 (f_15 sc) (f_209 sm) := by
    intro s' mF k1 k2 k3 k4
    obtain ⟨sc', q1, q2, q3⟩ := h15 (s := s') hT h1 (Or.inr rfl) k2
    exact Or.inr ⟨sc', mF, by unfold f_15; rw [k1, xc_inr]; exact q1, k3, q2, q3, k4.1, k4.2⟩
  have flt : ∀ (m : Sg), 0 < m 84 6 → ((f_231 7 (ax_u2 m 84 30 0)).bind fun q3 => j_209_28 FU q3.2) = some (ax_u2 m 84 30 0) ∧ BSm m (ax_u2 m 84 30 0) := fun m hf => by
    have e : 0 < (ax_u2 m 84 30 0) 84 6 := by rw [u2_col _ _ _ (by decide)]; exact hf
    refine ⟨?_, slot_sf (by decide), e⟩
    rw [takeF e, Option.bind_some]
    exact fl28 e FU1
  by_cases t0 : T.tk 0 = 16
  rotate_left
  · have e1 : 0 < (tel m0 2 0) 84 6 := by rw [tel_at]; decide
    obtain ⟨y1, y2⟩ := flt _ e1
    refine fail sc _ ?_ ⟨SFc.refl _, _, h3⟩ ?_ ⟨(sg0.trans tel_sf).trans y2.1, y2.2⟩
    · unfold f_141
      rw [c92n h3 t0, xb_err]
    · rw [rm, takeN (sg0.mc h2) hT f0 u0 h3.2.2 (k := 16) (by decide) (by decide) t0, Option.bind_some]
      dsimp only
      rw [takeF e1, Option.bind_some]
      exact y1
  have z0 := hT.lt h3.2.2 (by rw [t0]; decide)
  have cu1 : CU T (cur T sc 1) 1 := cur_cu (by omega)
  have cc1 : CC T (cur T sc 1) := cur_sf.cc h1
  obtain ⟨m1, hm1⟩ : ∃ s : Sg, s = adv m0 1 := ⟨_, rfl⟩
  have sg1 : SFm sm m1 := by rw [hm1]; exact sg0.trans adv_sf
  have f1 : m1 84 6 = 0 := by rw [hm1, adv_col (by decide)]; exact f0
  have u1 : m1 84 18 = ((1 : Nat) : Int) := by rw [hm1]; exact adv_at
  have rc1 : f_141 sc = xb (f_93 1 64 (cur T sc 1)) fun q2 => (xb (f_92 59 (ax_u2 q2.2 54 7 q2.1)) fun q3 => some (.inl q3)) := by
    unfold f_141
    rw [c92y hT h1 h3 t0 (by decide), xb_inl]
  have rm1 : f_209 sm = (f_231 2 m1).bind fun q2 => (f_231 7 (ax_u2 q2.2 84 30 q2.1)).bind fun q3 => j_209_28 FU q3.2 := by
    rw [rm, takeY (sg0.mc h2) hT f0 u0 h3.2.2 (k := 16) (by decide) t0, Option.bind_some, hm1]
  by_cases t1 : T.tk 1 = 2
  rotate_left
  · have e1 : 0 < (tel m1 2 1) 84 6 := by rw [tel_at]; decide
    obtain ⟨y1, y2⟩ := flt _ e1
    refine fail (cur T sc 1) _ ?_ ⟨cur_sf, _, cu1⟩ ?_ ⟨(sg1.trans tel_sf).trans y2.1, y2.2⟩
    · rw [rc1, c93n cu1 t1, xb_err]
    · rw [rm1, takeN (sg1.mc h2) hT f1 u1 cu1.2.2 (k := 2) (by decide) (by decide) t1, Option.bind_some]
      exact y1
  have z1 := hT.lt cu1.2.2 (by rw [t1]; decide)
  obtain ⟨s2, k1, k2, k3, k4⟩ := c93 (lo := 1) (hi := 64) hT cc1 cu1 t1
  obtain ⟨sc2, hsc2⟩ : ∃ s : Sg, s = ax_u2 (cur T s2 2) 54 7 (mn (T.vl 1)) := ⟨_, rfl⟩
  have r2 : ∀ c, c ≠ 30 → c ≠ 39 → c ≠ 54 → sc2 c = sc c := fun c x y z => by rw [hsc2, u2_row _ _ _ z, cur_row y, k3 c x, cur_row y]
  have r39 : sc2 39 = (cur T s2 2) 39 := by rw [hsc2, u2_row _ _ _ (by decide)]
  have sf2 : SFc sc sc2 := ⟨fun c x => r2 c (by omega) (by omega) (by omega), fun j x y => by rw [r39, cur_col x y, k3 39 (by decide), cur_col x y], fun j x => by rw [hsc2, u2_row _ _ _ (by decide), cur_row (by decide), k4 j x, cur_row (by decide)], fun j _ => by rw [r2 31 (by decide) (by decide) (by decide)], W8.same (r2 31 (by decide) (by decide) (by decide))⟩
  have cv2 := cur_cu (T := T) (s := s2) (a := 2) (by omega)
  have cu2 : CU T sc2 2 := ⟨by rw [r39]; exact cv2.1, by rw [r39]; exact cv2.2.1, cv2.2.2⟩
  obtain ⟨m2, hm2⟩ : ∃ s : Sg, s = ax_u2 (adv m1 2) 84 30 ((1 : Nat) : Int) := ⟨_, rfl⟩
  have sg2 : SFm sm m2 := by rw [hm2]; exact (sg1.trans adv_sf).trans (slot_sf (by decide))
  have f2 : m2 84 6 = 0 := by rw [hm2, u2_col _ _ _ (by decide), adv_col (by decide)]; exact f1
  have u2 : m2 84 18 = ((2 : Nat) : Int) := by rw [hm2, u2_col _ _ _ (by decide)]; exact adv_at
  have rc2 : f_141 sc = xb (f_92 59 sc2) fun q3 => some (.inl q3) := by
    rw [rc1, k1, xb_inl, hsc2]
  have rm2 : f_209 sm = (f_231 7 m2).bind fun q3 => j_209_28 FU q3.2 := by
    rw [rm1, takeY (sg1.mc h2) hT f1 u1 cu1.2.2 (k := 2) (by decide) t1, Option.bind_some, hm2]
  by_cases t2 : T.tk 2 = 59
  rotate_left
  · have e1 : 0 < (tel m2 2 2) 84 6 := by rw [tel_at]; decide
    refine fail sc2 (tel m2 2 2) ?_ ⟨sf2, _, cu2⟩ ?_ ⟨sg2.trans tel_sf, e1⟩
    · rw [rc2, c92n cu2 t2, xb_err]
    · rw [rm2, takeN (sg2.mc h2) hT f2 u2 cu2.2.2 (k := 59) (by decide) (by decide) t2, Option.bind_some]
      exact fl28 e1 FU1
  have z2 := hT.lt cu2.2.2 (by rw [t2]; decide)
  obtain ⟨sc3, hsc3⟩ : ∃ s : Sg, s = cur T sc2 3 := ⟨_, rfl⟩
  obtain ⟨m3, hm3⟩ : ∃ s : Sg, s = adv m2 3 := ⟨_, rfl⟩
  have rc3 : f_15 sc = j_15_9 FU ((0 : Nat) : Int) sc3 := by
    unfold f_15
    rw [rc2, c92y hT (sf2.cc h1) cu2 t2 (by decide), xb_inl, xc_inl, hsc3]
    rfl
  have rm3 : f_209 sm = j_209_28 FU m3 := by
    rw [rm2, takeY (sg2.mc h2) hT f2 u2 cu2.2.2 (k := 59) (by decide) t2, Option.bind_some, hm3]
  have r3 : ∀ c, c ≠ 30 → c ≠ 39 → c ≠ 54 → sc3 c = sc c := fun c x y z => by rw [hsc3, cur_row y, r2 c x y z]
  have q3 : ∀ c, c ≠ 84 → m3 c = sm c := fun c x => by rw [hm3, adv_row x, hm2, u2_row _ _ _ x, adv_row x, hm1, adv_row x, hm0, adv_row x]
  have q8 : ∀ j, j ≠ 18 → j ≠ 30 → m3 84 j = sm 84 j := fun j x y => by rw [hm3, adv_col x, hm2, u2_col _ _ _ y, adv_col x, hm1, adv_col x, hm0, adv_col x]
  have sf3 : SFc sc sc3 := by rw [hsc3]; exact sf2.trans cur_sf
  have sg3 : SFm sm m3 := by rw [hm3]; exact sg2.trans adv_sf
  have cn3 : CN sc3 ↔ 1 ≤ T.vl 1 ∧ T.vl 1 ≤ 64 := by
    have e1 : CN sc3 ↔ CN s2 := by unfold CN; rw [hsc3, cur_row (by decide), hsc2, u2_row _ _ _ (by decide), cur_row (by decide)]
    have e2 : CN (cur T sc 1) ↔ CN sc := by unfold CN; rw [cur_row (by decide)]
    rw [e1, k2, e2]
    exact ⟨fun y => y.2, fun y => ⟨h17, y⟩⟩
  have frs : ∀ k, k < T.z → FRS T sc3 m3 k := fun k hk => by
    obtain ⟨g1, g2, g3, g4⟩ := h9 k hk
    exact ⟨by rw [r3 45 (by decide) (by decide) (by decide)]; exact g1, by rw [q3 91 (by decide)]; exact g2, by rw [q3 92 (by decide)]; exact g3, by rw [q3 93 (by decide)]; exact g4⟩
  have no : ∀ {α : Prop} {i : Nat}, i < 0 → α := fun {_ _} hi => absurd hi (Nat.not_lt_zero _)
  have dat : DAT T sc3 m3 0 0 0 0 0 1 := by
    refine ⟨fun i hi => no hi, fun i hi => no hi, ⟨fun i hi => no hi, fun _ i hi => no hi, fun i hi => no hi, fun i hi => no hi⟩, fun i hi => no hi, fun _ i hi => no hi, fun id hid => Or.inl ⟨by rw [r3 36 (by decide) (by decide) (by decide)]; exact (h18 id hid).1, fun i hi => no hi⟩, ?_⟩
    rw [cn3]
    exact ⟨⟨fun y => ⟨y, fun i hi => no hi, fun i hi => no hi, fun i hi => no hi⟩, fun y => y.1⟩, ⟨fun i hi => no hi, fun i hi => no hi⟩, ⟨fun i hi => no hi, fun i _ hi => no hi⟩, fun i hi => no hi⟩
  have f3 := hT.2.2.2.1 3 (by omega)
  have tks : ∀ k, k < 3 → k = 0 ∨ k = 1 ∨ k = 2 := fun k hk => by omega
  have v54 : sc3 54 7 = mn (T.vl 1) := by rw [hsc3, cur_row (by decide), hsc2]; exact u2_same _ _ _ _
  have w54 : sc3 54 6 = 0 := by rw [hsc3, cur_row (by decide), hsc2, u2_col _ _ _ (by decide), cur_row (by decide), k3 54 (by decide), cur_row (by decide)]; exact h10
  have ps : PS0 T sc sm sc3 m3 3 0 0 0 0 0 0 1 := by
    refine ⟨⟨sf3.cc h1, sg3.mc h2, by rw [hsc3]; exact cur_cu (by omega), by rw [hm3]; exact adv_at, by rw [q8 6 (by decide) (by decide)]; exact h4, ⟨by rw [r3 46 (by decide) (by decide) (by decide)]; exact h5, by rw [q8 47 (by decide) (by decide)]; exact h6, by rw [q8 57 (by decide) (by decide)]; exact h7, fun i hi => no hi⟩, by rw [r3 66 (by decide) (by decide) (by decide)]; exact h8, fun k _ hk => frs k hk, fun k hk => (frs k (by omega)).lf, w54, by rw [q8 31 (by decide) (by decide)]; exact h12, by rw [q8 34 (by decide) (by decide)]; exact h13, by rw [r3 61 (by decide) (by decide) (by decide)]; exact h14, by rw [r3 31 (by decide) (by decide) (by decide)]; exact h15', sf3, sg3, dat, fun i hi => no hi, ?_, ?_, by omega, by omega, by omega, by omega, by omega, by omega, by omega, ?_, v54, by omega, t1⟩, by rw [r3 70 (by decide) (by decide) (by decide)]; exact h16, by rw [q8 19 (by decide) (by decide)]; exact h11, by omega, fun _ id hid => by rw [r3 37 (by decide) (by decide) (by decide)]; exact (h18 id hid).2, fun i hi => no hi, Or.inl t2, ?_⟩
    · intro k x y
      rcases tks k y with e | e | e
      · omega
      · rw [e]
        exact Or.inr (Or.inr (Or.inl (by rw [show 1 - 1 = 0 by omega, t0, t1]; decide)))
      · rw [e]
        exact Or.inr (Or.inl ⟨by rw [show 2 - 1 = 1 by omega, t1]; decide, Or.inl t2⟩)
    · intro k y
      rcases tks k y with e | e | e
      · rw [e]
        exact ⟨fun u => absurd u (by rw [t0]; decide), fun u => absurd u.1 (by omega)⟩
      · rw [e]
        exact STT.inn (by rw [t1]; decide) (by rw [show 1 - 1 = 0 by omega, t0]; decide) (by rw [show 1 - 1 = 0 by omega, t0]; decide)
      · rw [e]
        exact STT.inn (by rw [t2]; decide) (by rw [show 2 - 1 = 1 by omega, t1]; decide) (by rw [show 2 - 1 = 1 by omega, t1]; decide)
    · rw [hm3, adv_col (by decide), hm2]
      exact u2_same _ _ _ _
    · show dpt T 2 + _ = 0
      rw [show dpt T 2 = dpt T 1 + (if T.tk 1 = 123 then 1 else if T.tk 1 = 125 then -1 else 0) from rfl, show dpt T 1 = dpt T 0 + (if T.tk 0 = 123 then 1 else if T.tk 0 = 125 then -1 else 0) from rfl, show dpt T 0 = 0 from rfl, t0, t1, t2]
      decide
  rw [rc3, rm3]
  have zz : 3 ≤ T.z := by omega
  exact (stm_sim hT hp h1 h19 (T.z - 3)).1 FU FU 0 (by omega) ps (by omega) (by unfold FU; omega) (by unfold FU; omega)
end WORDL
/-! FROM CUTTING to reading: what the lexemes are. -/
/-- the text behind the lexemes -/
def TX (T : TT) (sc sm : Sg) (n : Nat) (t : Nat → Int) : Prop := CT sc n t ∧ MT sm n t ∧ NI sc T.m ∧ (∀ k, k < T.z → ∃ i j : Nat, T.fm k = (i : Int) ∧ sc 43 k = (j : Int) - i ∧ sm 89 k = (i : Int) ∧ sm 90 k = (j : Int) ∧ i < j ∧ j ≤ n ∧ j = lxE t n i ∧ (LXn sc t T.m i j (T.tk k) (T.vl k) ∨ LXv t n i j (T.tk k) (T.vl k) ∨ LXs t n i j (T.tk k) (T.vl k)))
section CTX
variable {sc sm sc' sm' : Sg} {T : TT} {n z m i j id : Nat} {t : Nat → Int} {k v : Int}
theorem TX.sf (h : TX T sc sm n t) (hc : SFc sc sc') (hm : SFm sm sm') : TX T sc' sm' n t := by
  obtain ⟨h1, h2, h3, h4⟩ := h
  have r : ∀ c, ¬ (c = 30 ∨ c = 31 ∨ 36 ≤ c ∧ c ≤ 39 ∨ 45 ≤ c ∧ c ≤ 72) → sc' c = sc c := hc.1
  refine ⟨?_, ?_, ?_, fun k hk => ?_⟩
  · obtain ⟨a1, a2, a3⟩ := h1
    exact ⟨by rw [hc.2.1 8 (by decide) (by decide)]; exact a1, a2, by rw [r 40 (by decide)]; exact a3⟩
  · obtain ⟨a1, a2, a3⟩ := h2
    exact ⟨by rw [hm.2 3 (by decide)]; exact a1, a2, by rw [hm.1 86 (by decide)]; exact a3⟩
  · unfold NI at *
    rw [hc.2.2.2.1 7 (by decide), r 32 (by decide), r 33 (by decide), r 34 (by decide), r 35 (by decide)]
    exact h3
  · obtain ⟨i, j, a1, a2, a3, a4, a5, a6, a7, a8⟩ := h4 k hk
    refine ⟨i, j, a1, by rw [r 43 (by decide)]; exact a2, by rw [hm.1 89 (by decide)]; exact a3, by rw [hm.1 90 (by decide)]; exact a4, a5, a6, a7, ?_⟩
    unfold LXn
    rw [r 34 (by decide), r 35 (by decide)]
    exact a8
theorem LXn.ps (h : LXn sc t m i j k v) (hj : i < j) : ∀ e, e < j - i → 0 < t (i + e) ∧ t (i + e) < 256 := by
  intro e he
  have := h.2.1 (i + e) (by omega) (by omega)
  unfold isLD isL isD at this
  simp only [Bool.or_eq_true, decide_eq_true_eq] at this
  omega
/-- how long a word is at least -/
theorem LXn.len (h : LXn sc t m i j k v) (hW : WD sc) (hj : i < j) : (17 ≤ k → k ≤ 20 → i + 3 ≤ j) ∧ (k = 21 → i + 2 ≤ j) := by
  have hp := h.ps hj
  obtain ⟨h1, h2, h3, id, h4, h5, h6, h7, h8⟩ := h
  have key : id < 12 → pk t (j - i) i = (wdk.getD id 0).toNat := fun hid => by
    obtain ⟨w1, w2⟩ := hW id hid
    have hv : (wdk.getD id 0).toNat < 9223372036854775808 ∧ 0 ≤ wdk.getD id 0 := by
      have : ∀ k, k < 12 → (wdk.getD k 0).toNat < 9223372036854775808 ∧ 0 ≤ wdk.getD k 0 := by decide
      exact this id hid
    refine (spl_short hp h3 _ hv.1).mp ?_
    have e1 : (spl t (j - i) i).1 = 0 := by rw [← h6, w1]
    have e2 : (spl t (j - i) i).2 = wdk.getD id 0 := by rw [← h7, w2]
    rw [show spl t (j - i) i = ((spl t (j - i) i).1, (spl t (j - i) i).2) from rfl, e1, e2]
    congr 1
    omega
  have lt := pkn_lt t i (j - i) hp
  have big : ∀ L, j - i ≤ L → pk t (j - i) i < 256 ^ L := fun L hL => Nat.lt_of_lt_of_le lt (Nat.pow_le_pow_right (by decide) hL)
  refine ⟨fun a b => ?_, fun a => ?_⟩
  · have hid : id < 12 ∧ 1 ≤ id ∧ id ≤ 4 := by
      by_cases c : 12 ≤ id
      · rw [if_pos c] at h8; omega
      · rw [if_neg c] at h8; omega
    have kk := key hid.1
    apply Decidable.byContradiction
    intro hn
    have b2 := big 2 (by omega)
    rw [kk] at b2
    have : ∀ q, q < 5 → 1 ≤ q → ¬ (wdk.getD q 0).toNat < 256 ^ 2 := by decide
    exact this id (by omega) hid.2.1 b2
  · have hid : id < 12 ∧ id = 5 := by
      by_cases c : 12 ≤ id
      · rw [if_pos c] at h8; omega
      · rw [if_neg c] at h8; omega
    have kk := key hid.1
    apply Decidable.byContradiction
    intro hn
    have b2 := big 1 (by omega)
    rw [kk, hid.2] at b2
    exact absurd b2 (by decide)
theorem nmV_b (hd : isD (t i) = true) (hi : i < n) : 0 ≤ nmV t n i ∧ nmV t n i ≤ 1099511627776 := by
  unfold nmV nmE
  split
  · refine hvl_b t _ _ _ (fun e x y => rn_all isH t (n - (i + 2)) (i + 2) e x ?_) (by decide) (by decide)
    have := rn_ge isH t (n - (i + 2)) (i + 2)
    omega
  · refine dvl_b t _ _ _ (fun e x y => rn_all isD t (n - i) i e x ?_) (by decide) (by decide)
    have := rn_ge isD t (n - i) i
    omega
theorem isS_kv : ∀ k : Nat, k < 128 → isS (k : Int) = true → (k : Int) ∈ kvl ∧ (k : Int) ≠ 0 ∧ (k : Int) ≠ 1 ∧ ¬ (17 ≤ (k : Int) ∧ (k : Int) ≤ 21) := by decide
theorem isS_b (h : isS k = true) : 0 ≤ k ∧ k < 128 := by
  unfold isS at h
  simp only [decide_eq_true_eq] at h
  omega
/-- the END lexeme is added, on both sides -/
def ENc (s : Sg) (z n : Nat) : Sg := ax_u2 (ax_u2 (ax_u2 (AD s z 0 (n : Int) (n : Int) 0) 39 9 (z : Int)) 39 10 0) 39 11 ((AD s z 0 (n : Int) (n : Int) 0) 41 0)
def ENm (s : Sg) (z n : Nat) : Sg := ax_u2 (ax_u2 (ax_u2 s 88 z 0) 89 z (n : Int)) 90 z (n : Int)
theorem ENc_row {c : Nat} (h : ¬ (c = 39 ∨ 41 ≤ c ∧ c ≤ 45)) : ENc sc z n c = sc c := by
  unfold ENc AD
  rw [u2_row _ _ _ (by omega), u2_row _ _ _ (by omega), u2_row _ _ _ (by omega), u2_row _ _ _ (by omega), u2_row _ _ _ (by omega), u2_row _ _ _ (by omega), u2_row _ _ _ (by omega), u2_row _ _ _ (by omega), u2_row _ _ _ (by omega)]
theorem ENc_col {c q : Nat} (h : 41 ≤ c ∧ c ≤ 45) (hq : q ≠ z) : ENc sc z n c q = sc c q := by
  unfold ENc AD
  have u : ∀ (s : Sg) (d : Nat) (v : Int), (ax_u2 s d z v) c q = s c q := fun s d v => by simp [ax_u2, hq]
  rw [u2_row _ _ _ (by omega), u2_row _ _ _ (by omega), u2_row _ _ _ (by omega), u2_row _ _ _ (by omega), u, u, u, u, u]
theorem ENc_at : ENc sc z n 41 z = 0 ∧ ENc sc z n 42 z = (n : Int) ∧ ENc sc z n 43 z = 0 ∧ ENc sc z n 44 z = 0 ∧ ENc sc z n 45 z = 0 ∧ ENc sc z n 39 9 = (z : Int) ∧ ENc sc z n 39 10 = 0 ∧ ENc sc z n 39 11 = ENc sc z n 41 0 ∧ ∀ j, j ≠ 9 → j ≠ 10 → j ≠ 11 → ENc sc z n 39 j = sc 39 j := by
  refine ⟨by simp [ENc, AD, ax_u2], by simp [ENc, AD, ax_u2], by simp [ENc, AD, ax_u2], by simp [ENc, AD, ax_u2], by simp [ENc, AD, ax_u2], by simp [ENc, AD, ax_u2], by simp [ENc, AD, ax_u2], ?_, fun j a b c => by simp [ENc, AD, ax_u2, a, b, c]⟩
  unfold ENc
  rw [u2_same, u2_row _ _ _ (by decide), u2_row _ _ _ (by decide), u2_row _ _ _ (by decide)]
theorem ENm_row {c : Nat} (h : ¬ (88 ≤ c ∧ c ≤ 90)) : ENm sm z n c = sm c := by
  unfold ENm
  rw [u2_row _ _ _ (by omega), u2_row _ _ _ (by omega), u2_row _ _ _ (by omega)]
theorem ENm_col {c q : Nat} (hq : q ≠ z) : ENm sm z n c q = sm c q := by
  unfold ENm
  have u : ∀ (s : Sg) (d : Nat) (v : Int), (ax_u2 s d z v) c q = s c q := fun s d v => by simp [ax_u2, hq]
  rw [u, u, u]
theorem ENm_at : ENm sm z n 88 z = 0 ∧ ENm sm z n 89 z = (n : Int) ∧ ENm sm z n 90 z = (n : Int) := by
  refine ⟨by simp [ENm, ax_u2], by simp [ENm, ax_u2], by simp [ENm, ax_u2]⟩
theorem c101e (H : CLS sc n t z m) (hz : z ≤ n) : j_73_28_101 sc = some (1, ENc sc z n) := by
  obtain ⟨⟨a1, a2, -⟩, -, -, -, -, -, -, a9⟩ := H
  obtain ⟨e, g⟩ := c78 (s := sc) (z := z) a9 (by omega) (i := n) (j := n) (Nat.le_refl _) a2 0 0
  unfold j_73_28_101
  rw [a1, gd_pos g, e, Option.bind_some]
  have w : ax_w32 ((AD sc z 0 (n : Int) (n : Int) 0) 39 9 - 1) = (z : Int) := by
    rw [show (AD sc z 0 (n : Int) (n : Int) 0) 39 9 = (z : Int) + 1 by simp [AD, ax_u2], w32_id (by omega) (by omega)]
    omega
  rw [w]
  have r9 : (ax_u2 (ax_u2 (AD sc z 0 (n : Int) (n : Int) 0) 39 9 (z : Int)) 39 10 0) 39 9 = (z : Int) := by rw [u2_col _ _ _ (by decide)]; exact u2_same _ _ _ _
  have g79 : g_79 0 (ax_u2 (ax_u2 (AD sc z 0 (n : Int) (n : Int) 0) 39 9 (z : Int)) 39 10 0) := by
    unfold g_79
    rw [r9]
    refine ⟨fun _ => trivial, fun _ => ⟨fun _ => trivial, fun _ => ?_⟩⟩
    first | exact ⟨by omega, trivial⟩ | exact ⟨fun _ => trivial, fun _ => ⟨by omega, trivial⟩⟩
  have f79 : f_79 0 (ax_u2 (ax_u2 (AD sc z 0 (n : Int) (n : Int) 0) 39 9 (z : Int)) 39 10 0) = (AD sc z 0 (n : Int) (n : Int) 0) 41 0 := by
    unfold f_79
    rw [r9, if_neg (by decide)]
    by_cases z0 : z = 0
    · rw [if_pos (by omega), z0]
      simp [AD, ax_u2]
    · rw [if_neg (by omega), u2_row _ _ _ (by decide), u2_row _ _ _ (by decide)]
      rfl
  rw [gd_pos g79, f79]
  rfl
theorem m222e (h11 : sm 84 11 = (z : Int)) (h3 : sm 84 3 = (n : Int)) (hz : z < 8200) : j_208_222 sm = some (ENm sm z n) := by
  unfold j_208_222
  rw [h11, h3, gd_pos (by omega), gd_pos (by omega), gd_pos (by omega), Int.toNat_natCast]
  rfl
end CTX
/-! FROM CUTTING to reading. -/
section CIN
variable {sc sm : Sg} {n z m : Nat} {t : Nat → Int}
theorem LR.kd {k : Nat} (h : LR sc sm n t m k) (hm : m ≤ 4111) : sc 41 k ∈ kvl ∧ sc 41 k ≠ 0 ∧ (0 ≤ sc 44 k ∧ sc 44 k ≤ 1099511627776) ∧ (sc 41 k = 1 → sc 44 k < (m : Int)) ∧ (sc 41 k = 1 ∨ 17 ≤ sc 41 k ∧ sc 41 k ≤ 21 → ∃ i j : Nat, sc 42 k = (i : Int) ∧ sc 43 k = (j : Int) - i ∧ i < j ∧ j ≤ n ∧ j = lxE t n i ∧ LXn sc t m i j (sc 41 k) (sc 44 k)) := by
  obtain ⟨i, j, a1, a2, a3, a4, a5, a6, aE, a7, a8, a9, a10, a11, a12⟩ := h
  rcases a12 with b | b | b
  · obtain ⟨b1, b2, b3, id, b4, b5, b6, b7, b8⟩ := id b
    refine ⟨?_, ?_, by omega, fun _ => by omega, fun _ => ⟨i, j, a1, a2, a5, a6, aE, b⟩⟩
    · rw [b8]
      by_cases c : 12 ≤ id
      · rw [if_pos c]; decide
      · rw [if_neg c]
        have : ∀ q : Nat, q < 12 → (16 + (q : Int)) ∈ kvl := by decide
        exact this id (by omega)
    · rw [b8]
      split <;> omega
  · obtain ⟨b1, b2, b3, b4, b5⟩ := b
    rw [b4, b5]
    exact ⟨by decide, by decide, nmV_b b1 (by omega), fun e => absurd e (by decide), fun e => absurd e (by decide)⟩
  · obtain ⟨b1, b2⟩ := b
    rw [b1]
    rcases b2 with ⟨b2, b3, b4⟩ | ⟨b2, b3, b4, b5⟩
    · obtain ⟨p1, p2⟩ := isS_b b3
      have q := isS_kv (sc 41 k).toNat (by omega) (by rw [Int.toNat_of_nonneg p1]; exact b3)
      rw [Int.toNat_of_nonneg p1] at q
      exact ⟨q.1, q.2.1, by decide, fun e => absurd e q.2.2.1, fun e => absurd e (by
        intro u
        rcases u with u | u
        · exact q.2.2.1 u
        · exact q.2.2.2 u)⟩
    · have : sc 41 k = 128 ∨ sc 41 k = 129 ∨ sc 41 k = 130 ∨ sc 41 k = 131 := by omega
      rcases this with e | e | e | e <;> rw [e] <;> exact ⟨by decide, by decide, by decide, fun e => absurd e (by decide), fun e => absurd e (by decide)⟩
/-- lexemes do not overlap -/
def XO (T : TT) (s : Sg) : Prop := ∀ k, k < T.z → T.fm k + s 43 k ≤ T.fm (k + 1)
theorem cut_in (H : CLS sc n t z m) (hM : MT sm n t) (h11 : sm 84 11 = (z : Int)) (hz : z ≤ n) (hm : m ≤ 4111) (hL : ∀ k, k < z → LR sc sm n t m k) (hO : ORD sc z n) :
    ∃ T : TT, T.z = z ∧ T.m = m ∧ TWF T ∧ POS T ∧ CC T (ENc sc z n) ∧ MC T (ENm sm z n) ∧ CU T (ENc sc z n) 0 ∧ CX T (ENc sc z n) ∧ TX T (ENc sc z n) (ENm sm z n) n t ∧ (∀ k, k < z → FRS T (ENc sc z n) (ENm sm z n) k) ∧ XO T (ENc sc z n) := by
  obtain ⟨a1, a2, a3, a4, a5, a6, a7, a9⟩ := H
  obtain ⟨v41, v42, v43, v44, v45, v9, v10, v11, vo⟩ := ENc_at (sc := sc) (z := z) (n := n)
  obtain ⟨w88, w89, w90⟩ := ENm_at (sm := sm) (z := z) (n := n)
  have h8 := a1.2.1
  have ck : ∀ c q, 41 ≤ c → c ≤ 45 → q < z → ENc sc z n c q = sc c q := fun c q x y w => ENc_col ⟨x, y⟩ (by omega)
  have mk : ∀ c q, q < z → ENm sm z n c q = sm c q := fun c q w => ENm_col (by omega)
  have kd := fun k (hk : k < z) => (hL k hk).kd hm
  have hor : ∀ k, k < z → ∃ i j : Nat, sc 42 k = (i : Int) ∧ sc 43 k = (j : Int) - i ∧ i < j ∧ j ≤ n ∧ (j : Int) ≤ ENc sc z n 42 (k + 1) := by
    intro k hk
    obtain ⟨i, j, b1, b2, b3, b4, b5, b6, -⟩ := hL k hk
    refine ⟨i, j, b1, b2, b5, b6, ?_⟩
    by_cases e : k + 1 < z
    · rw [ck 42 (k + 1) (by decide) (by decide) e]
      have := hO.1 k e
      omega
    · rw [show k + 1 = z by omega, v42]
      omega
  refine ⟨(z, m, ENc sc z n 41, ENc sc z n 42, ENc sc z n 44), rfl, rfl, ?_, ?_, ?_, ?_, ?_, ?_, ?_, ?_, ?_⟩
  · refine ⟨by show z ≤ 8192; omega, v41, fun k hk => ?_, fun k hk => ?_, fun k hk => ?_, fun k hk => ?_, by show m ≤ 4112; omega⟩
    · show ENc sc z n 41 k ∈ kvl ∧ ENc sc z n 41 k ≠ 0
      rw [ck 41 k (by decide) (by decide) hk]
      exact ⟨(kd k hk).1, (kd k hk).2.1⟩
    · show 0 ≤ ENc sc z n 42 k
      have hk : k ≤ z := hk
      by_cases e : k < z
      · rw [ck 42 k (by decide) (by decide) e]
        obtain ⟨i, j, b1, -⟩ := hor k e
        omega
      · rw [show k = z by omega, v42]
        omega
    · show 0 ≤ ENc sc z n 44 k ∧ ENc sc z n 44 k ≤ 1099511627776
      rw [ck 44 k (by decide) (by decide) hk]
      exact (kd k hk).2.2.1
    · show ENc sc z n 41 k = 1 → ENc sc z n 44 k < (m : Int)
      rw [ck 41 k (by decide) (by decide) hk, ck 44 k (by decide) (by decide) hk]
      exact (kd k hk).2.2.2.1
  · refine ⟨fun k hk => ?_, fun k hk => ?_, fun k hk => ?_, ?_⟩
    · show ENc sc z n 42 k + 1 ≤ ENc sc z n 42 (k + 1)
      have hk : k < z := hk
      rw [ck 42 k (by decide) (by decide) hk]
      obtain ⟨i, j, b1, b2, b3, b4, b5⟩ := hor k hk
      omega
    · show 17 ≤ ENc sc z n 41 k → ENc sc z n 41 k ≤ 20 → ENc sc z n 41 (k + 1) = 1 → ENc sc z n 42 k + 4 ≤ ENc sc z n 42 (k + 1)
      have hk : k + 1 < z := hk
      rw [ck 41 k (by decide) (by decide) (by omega), ck 41 (k + 1) (by decide) (by decide) hk, ck 42 k (by decide) (by decide) (by omega), ck 42 (k + 1) (by decide) (by decide) hk]
      intro k1 k2 k3
      obtain ⟨i, j, b1, b2, b3, b4, bE, b5⟩ := (kd k (by omega)).2.2.2.2 (Or.inr ⟨k1, by omega⟩)
      obtain ⟨i', j', c1, c2, c3, c4, cE, c5⟩ := (kd (k + 1) hk).2.2.2.2 (Or.inl k3)
      have l3 := (b5.len a5 b3).1 k1 k2
      have o := hO.1 k hk
      have ne : i' ≠ j := by
        intro e
        have bL := b5.1
        unfold lxE at bE
        rw [if_pos bL] at bE
        have st := rn_stop isLD t (n - i) i
        rw [← bE] at st
        have st := st (by omega)
        have cL := c5.1
        rw [e] at cL
        unfold isLD at st
        rw [cL] at st
        exact absurd st (by simp)
      omega
    · show ENc sc z n 41 k = 21 → ENc sc z n 42 k + 2 ≤ ENc sc z n 42 (k + 1)
      have hk : k < z := hk
      rw [ck 41 k (by decide) (by decide) hk, ck 42 k (by decide) (by decide) hk]
      intro k1
      obtain ⟨i, j, b1, b2, b3, b4, bE, b5⟩ := (kd k hk).2.2.2.2 (Or.inr ⟨by omega, by omega⟩)
      have l3 := (b5.len a5 b3).2 k1
      obtain ⟨i', j', d1, d2, d3, d4, d5⟩ := hor k hk
      omega
    · show ENc sc z n 42 z ≤ 8192
      rw [v42]; omega
  · exact ⟨v9, rfl, rfl, rfl, by rw [ENc_row (by decide)]; exact a3.1, fun k hk => by rw [ENc_row (by decide)]; exact a2.2.2.2.2 k hk⟩
  · refine ⟨by rw [ENm_row (by decide)]; exact h11, fun k hk => ?_⟩
    show ENm sm z n 88 k = km (ENc sc z n 41 k)
    have hk : k ≤ z := hk
    by_cases e : k < z
    · rw [mk 88 k e, ck 41 k (by decide) (by decide) e]
      obtain ⟨i, j, b1, b2, b3, b4, b5, b6, b7, b8, b9, b10, b11, b12, -⟩ := hL k e
      exact b12
    · rw [show k = z by omega, w88, v41]
      decide
  · exact ⟨v10, v11, by show 0 ≤ z; omega⟩
  · refine ⟨by rw [vo 8 (by decide) (by decide) (by decide), a1.1]; omega, fun k hk => ?_⟩
    show 0 ≤ ENc sc z n 43 k ∧ ENc sc z n 42 k + ENc sc z n 43 k ≤ ENc sc z n 39 8
    rw [ck 43 k (by decide) (by decide) hk, ck 42 k (by decide) (by decide) hk, vo 8 (by decide) (by decide) (by decide), a1.1]
    obtain ⟨i, j, b1, b2, b3, b4, b5⟩ := hor k hk
    omega
  · refine ⟨⟨by rw [vo 8 (by decide) (by decide) (by decide)]; exact a1.1, h8, by rw [ENc_row (by decide)]; exact a1.2.2⟩, ⟨by rw [ENm_row (by decide)]; exact hM.1, h8, by rw [ENm_row (by decide)]; exact hM.2.2⟩, ?_, fun k hk => ?_⟩
    · show NI (ENc sc z n) m
      unfold NI at *
      rw [ENc_row (show ¬ (31 = 39 ∨ 41 ≤ 31 ∧ 31 ≤ 45) by decide), ENc_row (show ¬ (32 = 39 ∨ 41 ≤ 32 ∧ 32 ≤ 45) by decide), ENc_row (show ¬ (33 = 39 ∨ 41 ≤ 33 ∧ 33 ≤ 45) by decide), ENc_row (show ¬ (34 = 39 ∨ 41 ≤ 34 ∧ 34 ≤ 45) by decide), ENc_row (show ¬ (35 = 39 ∨ 41 ≤ 35 ∧ 35 ≤ 45) by decide)]
      exact a3
    · have hk : k < z := hk
      obtain ⟨i, j, b1, b2, b3, b4, b5, b6, b7, b8, b9, b10, b11, b12, b13⟩ := hL k hk
      refine ⟨i, j, ?_, by rw [ck 43 k (by decide) (by decide) hk]; exact b2, by rw [mk 89 k hk]; exact b3, by rw [mk 90 k hk]; exact b4, b5, b6, b7, ?_⟩
      · show ENc sc z n 42 k = _
        rw [ck 42 k (by decide) (by decide) hk]; exact b1
      · show LXn (ENc sc z n) t m i j (ENc sc z n 41 k) (ENc sc z n 44 k) ∨ LXv t n i j (ENc sc z n 41 k) (ENc sc z n 44 k) ∨ LXs t n i j (ENc sc z n 41 k) (ENc sc z n 44 k)
        rw [ck 41 k (by decide) (by decide) hk, ck 44 k (by decide) (by decide) hk]
        unfold LXn
        rw [ENc_row (show ¬ (34 = 39 ∨ 41 ≤ 34 ∧ 34 ≤ 45) by decide), ENc_row (show ¬ (35 = 39 ∨ 41 ≤ 35 ∧ 35 ≤ 45) by decide)]
        exact b13
  · intro k hk
    obtain ⟨i, j, b1, b2, b3, b4, b5, b6, b7, b8, b9, b10, b11, b12, b13⟩ := hL k hk
    refine ⟨by rw [ck 45 k (by decide) (by decide) hk]; exact b8, by rw [mk 91 k hk]; exact b9, ?_, by rw [mk 93 k hk]; exact b11⟩
    show ENm sm z n 92 k = if ENc sc z n 41 k = 61 then 1 else 0
    rw [mk 92 k hk, ck 41 k (by decide) (by decide) hk, b10, b12]
    by_cases e : sc 41 k = 61
    · rw [if_pos e, e, if_neg (by decide)]
    · rw [if_neg e, if_pos (fun u => e (km_inj _ (kd k hk).1 61 (by decide) (by rw [u]; decide)))]
  · intro k hk
    have hk : k < z := hk
    show ENc sc z n 42 k + ENc sc z n 43 k ≤ ENc sc z n 42 (k + 1)
    rw [ck 42 k (by decide) (by decide) hk, ck 43 k (by decide) (by decide) hk]
    obtain ⟨i, j, b1, b2, b3, b4, b5⟩ := hor k hk
    omega
end CIN
/-! THE REFERENCE's checks: names, numbers, bits of the text. -/
noncomputable def p01 (p : Prop) : Int := @ite Int p (Classical.propDecidable p) 1 0
theorem p01_y {p : Prop} (h : p) : p01 p = 1 := if_pos h
theorem p01_n {p : Prop} (h : ¬ p) : p01 p = 0 := if_neg h
theorem p01_c {p q : Prop} (h : p ↔ q) : p01 p = p01 q := by rw [propext h]
theorem w32_sub {i j : Nat} (h : i ≤ j) (hj : j ≤ 100000) : ax_w32 ((j : Int) - (i : Int)) = (j : Int) - (i : Int) := w32_id (by omega) (by omega)
theorem w32_add {i l : Nat} (h : i + l ≤ 100000) : ax_w32 ((i : Int) + (l : Int)) = ((i + l : Nat) : Int) := by rw [w32_id (by omega) (by omega)]; omega
section MLX
variable {T : TT} {sc sm : Sg} {n a b : Nat} {t : Nat → Int}
theorem TX.nm (h : TX T sc sm n t) (ha : a < T.z) (ta : T.tk a = 1) : ∃ i j : Nat, sm 89 a = (i : Int) ∧ sm 90 a = (j : Int) ∧ i < j ∧ j ≤ n ∧ LXn sc t T.m i j 1 (T.vl a) := by
  obtain ⟨i, j, a1, a2, a3, a4, a5, a6, a7, a8⟩ := h.2.2.2 a ha
  rw [ta] at a8
  rcases a8 with a8 | a8 | a8
  · exact ⟨i, j, a3, a4, a5, a6, a8⟩
  · exact absurd a8.2.2.2.1 (by decide)
  · rcases a8.2 with ⟨_, q, _⟩ | ⟨_, q, _⟩
    · exact absurd q (by decide)
    · exact absurd q (by decide)
theorem TX.nu (h : TX T sc sm n t) (ha : a < T.z) (ta : T.tk a = 2) : ∃ i j : Nat, T.fm a = (i : Int) ∧ sc 43 a = (j : Int) - i ∧ sm 89 a = (i : Int) ∧ sm 90 a = (j : Int) ∧ i < j ∧ j ≤ n ∧ LXv t n i j 2 (T.vl a) := by
  obtain ⟨i, j, a1, a2, a3, a4, a5, a6, a7, a8⟩ := h.2.2.2 a ha
  rw [ta] at a8
  rcases a8 with a8 | a8 | a8
  · obtain ⟨_, _, _, id, _, _, _, _, q⟩ := a8
    exfalso
    by_cases c : 12 ≤ id
    · rw [if_pos c] at q; omega
    · rw [if_neg c] at q; omega
  · exact ⟨i, j, a1, a2, a3, a4, a5, a6, a8⟩
  · rcases a8.2 with ⟨_, q, _⟩ | ⟨_, q, _⟩
    · exact absurd q (by decide)
    · exact absurd q (by decide)
/-- two names are one -/
theorem m239l {i i' j j' : Nat} (hM : MT sm n t) (ha : a < 8200) (hb : b < 8200) (a1 : sm 89 a = (i : Int)) (a2 : sm 90 a = (j : Int)) (b1 : sm 89 b = (i' : Int)) (b2 : sm 90 b = (j' : Int)) (hj : i < j) (hjn : j ≤ n) (hjn' : j' ≤ n) (hl : j - i = j' - i') (hj' : i' < j') :
    ∀ (r l F : Nat), l + r = j - i → j_239_33 (F + r + 1) (a : Int) (b : Int) (l : Int) sm = some (p01 (∀ e, l ≤ e → e < j - i → t (i + e) = t (i' + e))) := by
  have h8 := hM.2.1
  intro r
  induction r with
  | zero =>
    intro l F hl
    rw [j_239_33, gd_pos (by omega), gd_pos (by omega), Int.toNat_natCast, a1, a2, w32_sub (i := i) (j := j) (by omega) (by omega), if_pos (by omega)]
    rw [p01_y (fun e x y => absurd y (by omega))]
  | succ r ih =>
    intro l F hlr
    rw [show F + (r + 1) + 1 = (F + r + 1) + 1 by omega, j_239_33, gd_pos (by omega), gd_pos (by omega), Int.toNat_natCast, Int.toNat_natCast, a1, a2, b1, w32_sub (i := i) (j := j) (by omega) (by omega), if_neg (by omega), gd_pos (by omega), w32_add (i := i) (l := l) (by omega), gd_pos (by omega), gd_pos (by omega), w32_add (i := i') (l := l) (by omega), gd_pos (by omega), Int.toNat_natCast, Int.toNat_natCast, (hM.2.2 (i + l) (by omega)).1, (hM.2.2 (i' + l) (by omega)).1]
    by_cases c : t (i + l) = t (i' + l)
    · rw [if_pos c, w32_nat (by omega), ih (l + 1) F (by omega)]
      congr 1
      exact p01_c ⟨fun d e x y => by
          by_cases u : e = l
          · rw [u]; exact c
          · exact d e (by omega) y, fun u e x y => u e (by omega) y⟩
    · rw [if_neg c, p01_n (fun u => c (u l (Nat.le_refl _) (by omega)))]
theorem m239 (hT : TWF T) (h : TX T sc sm n t) (ha : a < T.z) (ta : T.tk a = 1) (hb : b < T.z) (tb : T.tk b = 1) : f_239 (a : Int) (b : Int) sm = some (p01 (T.vl a = T.vl b)) := by
  obtain ⟨i, j, a1, a2, a3, a4, aL⟩ := h.nm ha ta
  obtain ⟨i', j', b1, b2, b3, b4, bL⟩ := h.nm hb tb
  have h8 := hT.1
  have n8 := h.2.1.2.1
  have pa := aL.ps a3
  have pb := bL.ps b3
  obtain ⟨q1, q2, q3, di, q4, q5, q6, q7, -⟩ := id aL
  obtain ⟨r1, r2, r3, di', r4, r5, r6, r7, -⟩ := id bL
  have key : T.vl a = T.vl b ↔ (j - i = j' - i' ∧ ∀ e, e < j - i → t (i + e) = t (i' + e)) := by
    constructor
    · intro e
      have ei : di = di' := by omega
      rw [ei, r6] at q6
      rw [ei, r7] at q7
      exact spl_inj pa pb q3 r3 q6.symm q7.symm
    · intro ⟨e1, e2⟩
      have es := spl_congr (t := t) (t' := t) (i := i) (i' := i') (j - i) e2
      rw [es, e1] at q6 q7
      have := h.2.2.1.2.2.2.2.2.2 di di' q4 r4 (by rw [q6, r6]) (by rw [q7, r7])
      omega
  unfold f_239
  rw [gd_pos (by omega), gd_pos (by omega), gd_pos (by omega), gd_pos (by omega), Int.toNat_natCast, Int.toNat_natCast, a1, a2, b1, b2, w32_sub (i := i) (j := j) (by omega) (by omega), w32_sub (i := i') (j := j') (by omega) (by omega)]
  by_cases c : j - i = j' - i'
  · rw [if_pos (by omega)]
    obtain ⟨F, hF⟩ := FU_split (k := j - i + 1) (by omega)
    have e0 := m239l (sm := sm) (n := n) (t := t) h.2.1 (a := a) (b := b) (by omega) (by omega) a1 a2 b1 b2 a3 a4 b4 c b3 (j - i) 0 F (by omega)
    rw [show F + (j - i) + 1 = FU by omega] at e0
    show j_239_33 FU (a : Int) (b : Int) ((0 : Nat) : Int) sm = _
    rw [e0]
    congr 1
    exact p01_c ⟨fun u => key.mpr ⟨c, fun e y => u e (Nat.zero_le _) y⟩, fun d e _ y => (key.mp d).2 e y⟩
  · rw [if_neg (by omega), p01_n (fun d => c (key.mp d).1)]
/-- a number's value -/
theorem m218l {j : Nat} {hx : Bool} (hM : MT sm n t) (ha : a < 8200) (a2 : sm 90 a = (j : Int)) (hjn : j ≤ n) :
    ∀ (r l F : Nat) (v : Int), l + r = j → 0 ≤ v → v ≤ 1099511627776 → (∀ e, l ≤ e → e < j → (if hx then isH (t e) else isD (t e)) = true) → j_218_26 (F + r + 1) (a : Int) (if hx then 1 else 0) v (l : Int) sm = some (if hx then hvl t r l v else dvl t r l v) := by
  have h8 := hM.2.1
  intro r
  induction r with
  | zero =>
    intro l F v hl v0 v1 hd
    rw [j_218_26, gd_pos (by omega), Int.toNat_natCast, a2, if_pos (by omega)]
    cases hx <;> rfl
  | succ r ih =>
    intro l F v hl v0 v1 hd
    have hb := hM.2.2 l (by omega)
    rw [show F + (r + 1) + 1 = (F + r + 1) + 1 by omega, j_218_26, gd_pos (by omega), Int.toNat_natCast, Int.toNat_natCast, a2, if_neg (by omega), gd_pos (by omega), hb.1, w32_nat (by omega), m226]
    have hdl := hd l (Nat.le_refl _) (by omega)
    cases hx with
    | true =>
      simp only [if_true] at hdl ih ⊢
      have hv := hxv_b hdl
      have e1 : ((if (1 : Int) = 0 then ax_w64 ((ax_w64 ((ax_w64 (10 * v)) + (t l))) - 48) else (if b01 (isD (t l)) = 0 then ax_w64 ((ax_w64 (16 * v)) + (ax_w32 ((t l) - 87))) else ax_w64 ((ax_w64 (16 * v)) + (ax_w32 ((t l) - 48))))) : Int) = v * 16 + hxv (t l) := by
        rw [if_neg (by decide), w64_id (z := 16 * v) (by omega) (by omega), w32_id (z := t l - 87) (by omega) (by omega), w32_id (z := t l - 48) (by omega) (by omega), w64_id (by omega) (by omega), w64_id (by omega) (by omega)]
        unfold hxv
        by_cases c : isD (t l) = true
        · rw [c, b01_t, if_neg (by decide), if_pos (by unfold isD at c; simp only [decide_eq_true_eq] at c; omega)]; omega
        · have c' : isD (t l) = false := by simpa using c
          have : ¬ t l ≤ 57 := by
            unfold isH at hdl
            unfold isD at c'
            simp only [decide_eq_true_eq] at hdl
            simp only [decide_eq_false_iff_not] at c'
            omega
          rw [c', b01_f, if_pos rfl, if_neg this]; omega
      rw [e1]
      have e2 : ((if ax_cmp (v * 16 + hxv (t l)) 1099511627776 ≤ 0 then v * 16 + hxv (t l) else 1099511627776) : Int) = cap (v * 16 + hxv (t l)) := by
        unfold cap
        simp only [cmp_le]
        split
        · rw [if_neg (by omega)]
        · rw [if_pos (by omega)]
      rw [e2]
      have cb := cap_b (x := v * 16 + hxv (t l)) (by omega)
      rw [ih (l + 1) F _ (by omega) cb.1 cb.2 (fun e x y => by simpa using hd e (by omega) y)]
      rfl
    | false =>
      simp only [Bool.false_eq_true, if_false] at hdl ih
      rw [if_neg (show ¬ (false = true) by simp), if_neg (show ¬ (false = true) by simp)]
      have hv : 0 ≤ t l - 48 ∧ t l - 48 < 10 := by unfold isD at hdl; simp only [decide_eq_true_eq] at hdl; omega
      have e1 : ((if (0 : Int) = 0 then ax_w64 ((ax_w64 ((ax_w64 (10 * v)) + (t l))) - 48) else (if b01 (isD (t l)) = 0 then ax_w64 ((ax_w64 (16 * v)) + (ax_w32 ((t l) - 87))) else ax_w64 ((ax_w64 (16 * v)) + (ax_w32 ((t l) - 48))))) : Int) = v * 10 + (t l - 48) := by
        rw [if_pos rfl, w64_id (z := 10 * v) (by omega) (by omega), w64_id (z := 10 * v + t l) (by omega) (by omega), w64_id (by omega) (by omega)]
        omega
      rw [e1]
      have e2 : ((if ax_cmp (v * 10 + (t l - 48)) 1099511627776 ≤ 0 then v * 10 + (t l - 48) else 1099511627776) : Int) = cap (v * 10 + (t l - 48)) := by
        unfold cap
        simp only [cmp_le]
        split
        · rw [if_neg (by omega)]
        · rw [if_pos (by omega)]
      rw [e2]
      have cb := cap_b (x := v * 10 + (t l - 48)) (by omega)
      rw [ih (l + 1) F _ (by omega) cb.1 cb.2 (fun e x y => by simpa using hd e (by omega) y)]
      rfl
theorem m218 (hT : TWF T) (h : TX T sc sm n t) (ha : a < T.z) (ta : T.tk a = 2) : f_218 (a : Int) sm = some (T.vl a) := by
  obtain ⟨i, j, -, -, a1, a2, a3, a4, aL⟩ := h.nu ha ta
  have h8 := hT.1
  have n8 := h.2.1.2.1
  obtain ⟨q1, q2, q3, -, q5⟩ := aL
  have g249 : g_249 (a : Int) sm := by
    unfold g_249
    rw [Int.toNat_natCast, a1, a2, w32_sub (i := i) (j := j) (by omega) (by omega), w32_nat (by omega)]
    exact ⟨by omega, by omega, fun _ => trivial, fun _ => ⟨by omega, by omega, trivial⟩⟩
  have e249 : f_249 (a : Int) sm = (if hxq t n i then 1 else 0) := by
    unfold f_249
    rw [Int.toNat_natCast, a1, a2, w32_sub (i := i) (j := j) (by omega) (by omega), w32_nat (by omega), Int.toNat_natCast]
    by_cases c : hxq t n i = true
    · have l3 := hxq_len c
      have g := rn_ge isH t (n - (i + 2)) (i + 2)
      have hst : isH (t (i + 2)) = true := by
        unfold hxq at c
        simp only [Bool.and_eq_true, decide_eq_true_eq] at c
        have := c.2
        unfold chs at this
        rw [if_pos (by omega)] at this
        exact this
      have ne : rn isH t (n - (i + 2)) (i + 2) ≠ i + 2 := by
        intro e
        have := rn_stop isH t (n - (i + 2)) (i + 2) (by omega)
        rw [e, hst] at this
        cases this
      unfold nmE at q3
      rw [if_pos c] at q3
      have hx : t (i + 1) = 120 := by
        unfold hxq at c
        simp only [Bool.and_eq_true, decide_eq_true_eq] at c
        have := c.1.2
        unfold chs at this
        rw [if_pos (by omega)] at this
        exact this
      rw [if_neg (by omega), (h.2.1.2.2 (i + 1) (by omega)).1, hx, if_neg (by decide), if_pos c]
    · rw [if_neg c]
      by_cases l2 : (j : Int) - (i : Int) ≤ 2
      · rw [if_pos l2]
      · rw [if_neg l2, (h.2.1.2.2 (i + 1) (by omega)).1, if_pos]
        intro e
        unfold nmE at q3
        rw [if_neg c] at q3
        have := rn_all isD t (n - i) i (i + 1) (by omega) (by omega)
        rw [e] at this
        exact absurd this (by decide)
  unfold f_218
  rw [gd_pos g249, gd_pos (by omega), Int.toNat_natCast, a1, e249, q5]
  by_cases c : hxq t n i = true
  · have g := rn_ge isH t (n - (i + 2)) (i + 2)
    have l3 := hxq_len c
    have qe : j = rn isH t (n - (i + 2)) (i + 2) := by unfold nmE at q3; rw [if_pos c] at q3; exact q3
    obtain ⟨F, hF⟩ := FU_split (k := j - (i + 2) + 1) (by omega)
    have e0 := m218l (hx := true) (sm := sm) (n := n) (t := t) h.2.1 (a := a) (by omega) a2 a4 (j - (i + 2)) (i + 2) F 0 (by omega) (by decide) (by decide) (fun e x y => by
      rw [if_pos rfl]
      exact rn_all isH t (n - (i + 2)) (i + 2) e x (by omega))
    rw [show F + (j - (i + 2)) + 1 = FU by omega] at e0
    simp only [if_true] at e0
    rw [if_pos c, if_neg (by decide), show ax_w32 ((i : Int) + 2) = ((i + 2 : Nat) : Int) from by rw [w32_id (by omega) (by omega)]; omega, e0]
    unfold nmV
    rw [if_pos c, ← q3]
  · have qe : j = rn isD t (n - i) i := by unfold nmE at q3; rw [if_neg c] at q3; exact q3
    obtain ⟨F, hF⟩ := FU_split (k := j - i + 1) (by omega)
    have e0 := m218l (hx := false) (sm := sm) (n := n) (t := t) h.2.1 (a := a) (by omega) a2 a4 (j - i) i F 0 (by omega) (by decide) (by decide) (fun e x y => by
      rw [if_neg (by simp)]
      exact rn_all isD t (n - i) i e x (by omega))
    rw [show F + (j - i) + 1 = FU by omega] at e0
    simp only [Bool.false_eq_true, if_false] at e0
    rw [if_neg c, if_pos rfl, show ax_w32 ((i : Int) + 0) = (i : Int) from by rw [w32_id (by omega) (by omega)]; omega, e0]
    unfold nmV
    rw [if_neg c, ← q3]
/-- are all its digits 0 or 1 -/
theorem m236l {j : Nat} (hM : MT sm n t) (ha : a < 8200) (a2 : sm 90 a = (j : Int)) (hjn : j ≤ n) :
    ∀ (r l F : Nat), l + r = j → j_236_7 (F + r + 1) (a : Int) (l : Int) sm = some (p01 (∀ e, l ≤ e → e < j → t e = 48 ∨ t e = 49)) := by
  have h8 := hM.2.1
  intro r
  induction r with
  | zero =>
    intro l F hl
    rw [j_236_7, gd_pos (by omega), Int.toNat_natCast, a2, if_pos (by omega)]
    rw [p01_y (fun e x y => absurd y (by omega))]
  | succ r ih =>
    intro l F hl
    have hb := hM.2.2 l (by omega)
    have go : (t l = 48 ∨ t l = 49) → j_236_41 (j_236_7 (F + r + 1)) (a : Int) (l : Int) sm = some (p01 (∀ e, l ≤ e → e < j → t e = 48 ∨ t e = 49)) := fun c => by
      unfold j_236_41
      rw [w32_nat (by omega), ih (l + 1) F (by omega)]
      congr 1
      exact p01_c ⟨fun d e x y => by
          by_cases u : e = l
          · rw [u]; exact c
          · exact d e (by omega) y, fun u e x y => u e (by omega) y⟩
    rw [show F + (r + 1) + 1 = (F + r + 1) + 1 by omega, j_236_7, gd_pos (by omega), Int.toNat_natCast, Int.toNat_natCast, a2, if_neg (by omega), gd_pos (by omega), hb.1]
    by_cases c : t l = 48
    · rw [if_pos c]; exact go (Or.inl c)
    · rw [if_neg c, gd_pos (by omega)]
      by_cases d : t l = 49
      · rw [if_pos d]; exact go (Or.inr d)
      · rw [if_neg d, p01_n (fun u => by rcases u l (Nat.le_refl _) (by omega) with x | x; exact c x; exact d x)]
theorem m236 (hT : TWF T) (hc : CC T sc) (h : TX T sc sm n t) (ha : a < T.z) (ta : T.tk a = 2) : f_236 (a : Int) sm = some (p01 (BIN sc a)) := by
  obtain ⟨i, j, a0, a9, a1, a2, a3, a4, aL⟩ := h.nu ha ta
  have h8 := hT.1
  have n8 := h.2.1.2.1
  have key : BIN sc a ↔ ∀ e, i ≤ e → e < j → t e = 48 ∨ t e = 49 := by
    unfold BIN
    rw [hc.2.2.1, a0, a9, Int.toNat_natCast]
    constructor
    · intro y e x z
      have := y (e - i) (by omega)
      rw [show i + (e - i) = e by omega, (h.1.2.2 e (by omega)).1] at this
      exact this
    · intro y e x
      rw [(h.1.2.2 (i + e) (by omega)).1]
      exact y (i + e) (by omega) (by omega)
  obtain ⟨F, hF⟩ := FU_split (k := j - i + 1) (by omega)
  have e0 := m236l (sm := sm) (n := n) (t := t) h.2.1 (a := a) (by omega) a2 a4 (j - i) i F (by omega)
  rw [show F + (j - i) + 1 = FU by omega] at e0
  unfold f_236
  rw [gd_pos (by omega), Int.toNat_natCast, a1, e0]
  congr 1
  exact p01_c ⟨fun u => key.mpr u, fun d => key.mp d⟩
end MLX
/-! THE REFERENCE's checks: what is found; whose a name is. -/
/-- a place is found, if p -/
def FD (s s' : Sg) (p : Prop) : Prop := (∀ c, c ≠ 84 → s' c = s c) ∧ (∀ j, j ≠ 8 → s' 84 j = s 84 j) ∧ (0 ≤ s' 84 8 ↔ 0 ≤ s 84 8 ∨ p)
/-- the first statement of a name -/
def SOF (T : TT) (sm : Sg) (S : Nat) (v r : Int) : Prop := (r = -1 ∧ ∀ i, i < S → T.vl (sm 95 i).toNat ≠ v) ∨ (∃ i : Nat, r = (i : Int) ∧ i < S ∧ T.vl (sm 95 i).toNat = v ∧ ∀ j, j < i → T.vl (sm 95 j).toNat ≠ v)
/-- statements have names; parts and reps too -/
def NMD (T : TT) (sm : Sg) (x : Int) : Prop := ∃ h : Nat, x = (h : Int) ∧ h < T.z ∧ T.tk h = 1
def OWK (T : TT) (sm : Sg) (S A : Nat) : Prop := S < 4100 ∧ A ≤ 8192 ∧ sm 84 19 = (S : Int) ∧ (∀ i, i < S → NMD T sm (sm 95 i)) ∧ (∀ i, i < S → ∃ p0 pc : Nat, sm 98 i = (p0 : Int) ∧ sm 99 i = (pc : Int) ∧ p0 + pc ≤ 8192 ∧ ∀ p, p0 ≤ p → p < p0 + pc → 0 ≤ sm 104 p → NMD T sm (sm 104 p)) ∧ (∀ a, a < A → -1 ≤ sm 113 a ∧ sm 113 a < (a : Int) ∧ (0 ≤ sm 113 a → sm 106 (sm 113 a).toNat = 2) ∧ (sm 106 a = 2 → NMD T sm (sm 107 a)))
section MOW
variable {T : TT} {sc sm s s' s2 : Sg} {n a b S A : Nat} {t : Nat → Int} {p q : Prop}
theorem FD.refl (s : Sg) : FD s s False := ⟨fun _ _ => rfl, fun _ _ => rfl, ⟨fun y => Or.inl y, fun y => by rcases y with y | y; exact y; exact y.elim⟩⟩
theorem FD.trans (h : FD s s' p) (k : FD s' s2 q) : FD s s2 (p ∨ q) := ⟨fun c x => (k.1 c x).trans (h.1 c x), fun j x => (k.2.1 j x).trans (h.2.1 j x), by rw [k.2.2, h.2.2, or_assoc]⟩
theorem FD.iff (h : FD s s' p) (k : p ↔ q) : FD s s' q := ⟨h.1, h.2.1, by rw [h.2.2, k]⟩
theorem TX.mrow (h : TX T sc s n t) (m1 : s' 84 3 = s 84 3) (m2 : s' 86 = s 86) (m3 : s' 89 = s 89) (m4 : s' 90 = s 90) : TX T sc s' n t := by
  obtain ⟨h1, ⟨b1, b2, b3⟩, h3, h4⟩ := h
  refine ⟨h1, ⟨by rw [m1]; exact b1, b2, by rw [m2]; exact b3⟩, h3, ?_⟩
  rw [m3, m4]
  exact h4
theorem FD.tx (h : FD s s' p) (k : TX T sc s n t) : TX T sc s' n t := k.mrow (h.2.1 3 (by decide)) (h.1 86 (by decide)) (h.1 89 (by decide)) (h.1 90 (by decide))
theorem m235 {x : Int} (hx : 0 ≤ x) : FD s (f_235 x s) True := by
  unfold f_235
  split
  · exact ⟨fun c y => u2_row _ _ _ y, fun j y => u2_col _ _ _ y, ⟨fun _ => Or.inr trivial, fun _ => by rw [u2_same]; exact hx⟩⟩
  · split
    · exact ⟨fun c y => u2_row _ _ _ y, fun j y => u2_col _ _ _ y, ⟨fun _ => Or.inr trivial, fun _ => by rw [u2_same]; omega⟩⟩
    · exact ⟨fun c y => u2_row _ _ _ y, fun j y => u2_col _ _ _ y, ⟨fun _ => Or.inr trivial, fun _ => by rw [u2_same]; exact hx⟩⟩
/-- a number within bounds -/
theorem m234 (hT : TWF T) (h : TX T sc sm n t) (ha : a < T.z) (ta : T.tk a = 2) (lo hi : Int) : ∃ s' : Sg, f_234 (a : Int) lo hi sm = some (p01 (lo ≤ T.vl a ∧ T.vl a ≤ hi), s') ∧ FD sm s' (¬ (lo ≤ T.vl a ∧ T.vl a ≤ hi)) := by
  have h8 := hT.1
  unfold f_234
  rw [m218 hT h ha ta, Option.bind_some, within_eq]
  by_cases c : lo ≤ T.vl a ∧ T.vl a ≤ hi
  · rw [if_pos c, p01_y c, if_pos (by decide)]
    exact ⟨sm, rfl, (FD.refl sm).iff ⟨fun y => y.elim, fun y => y c⟩⟩
  · obtain ⟨i, j, -, -, a1, -⟩ := h.nu ha ta
    rw [if_neg c, p01_n c, if_neg (by decide), gd_pos (by omega), Int.toNat_natCast, a1, Option.bind_some]
    exact ⟨_, rfl, (m235 (by omega)).iff ⟨fun _ => c, fun _ => trivial⟩⟩
/-- the statement of a name -/
theorem m238l (hT : TWF T) (h : TX T sc sm n t) (k : OWK T sm S A) (ha : a < T.z) (ta : T.tk a = 1) : ∀ (r l F : Nat), l + r = S → (∀ j, j < l → T.vl (sm 95 j).toNat ≠ T.vl a) → ∃ x : Int, j_238_2 (F + r + 1) (a : Int) (l : Int) sm = some x ∧ SOF T sm S (T.vl a) x := by
  obtain ⟨k1, k2, k3, k4, -⟩ := k
  intro r
  induction r with
  | zero =>
    intro l F hl hn
    exact ⟨-1, by rw [j_238_2, k3, if_pos (by omega)], Or.inl ⟨rfl, fun i hi => hn i (by omega)⟩⟩
  | succ r ih =>
    intro l F hl hn
    obtain ⟨x, x1, x2, x3⟩ := k4 l (by omega)
    rw [show F + (r + 1) + 1 = (F + r + 1) + 1 by omega, j_238_2, k3, if_neg (by omega), gd_pos (by omega), Int.toNat_natCast, x1, m239 hT h x2 x3 ha ta, Option.bind_some]
    by_cases c : T.vl x = T.vl a
    · rw [p01_y c, if_neg (by decide)]
      exact ⟨(l : Int), rfl, Or.inr ⟨l, rfl, by omega, by rw [x1, Int.toNat_natCast]; exact c, hn⟩⟩
    · rw [p01_n c, if_pos rfl, w32_nat (by omega)]
      refine ih (l + 1) F (by omega) (fun j hj => ?_)
      by_cases e : j = l
      · rw [e, x1, Int.toNat_natCast]; exact c
      · exact hn j (by omega)
theorem m238 (hT : TWF T) (h : TX T sc sm n t) (k : OWK T sm S A) (ha : a < T.z) (ta : T.tk a = 1) : ∃ x : Int, f_238 (a : Int) sm = some x ∧ SOF T sm S (T.vl a) x := by
  have k1 := k.1
  obtain ⟨F, hF⟩ := FU_split (k := S + 1) (by omega)
  have := m238l hT h k ha ta S 0 F (by omega) (fun j hj => absurd hj (by omega))
  rw [show F + S + 1 = FU by omega] at this
  exact this
/-- among the reps -/
theorem m240r (hT : TWF T) (h : TX T sc sm n t) (k : OWK T sm S A) (ha : a < T.z) (ta : T.tk a = 1) : ∀ (q : Nat) (r : Int) (F : Nat), r < (q : Int) → r < (A : Int) → (0 ≤ r → sm 106 r.toNat = 2) → j_240_62 (F + q + 1) (a : Int) r sm = some (p01 (rin T sm (T.vl a) q r)) := by
  obtain ⟨k1, k2, k3, k4, k5, k6⟩ := k
  intro q
  induction q with
  | zero =>
    intro r F hr _ _
    rw [j_240_62, if_pos (by omega), p01_n (show ¬ rin T sm (T.vl a) 0 r from fun y => y)]
  | succ q ih =>
    intro r F hr hA hk
    by_cases c : r < 0
    · rw [j_240_62, if_pos c, p01_n (show ¬ rin T sm (T.vl a) (q + 1) r from fun y => absurd y.1 (by omega))]
    · obtain ⟨u, hu⟩ : ∃ u : Nat, r = (u : Int) := ⟨r.toNat, by omega⟩
      subst hu
      rw [Int.toNat_natCast] at hk
      obtain ⟨g1, g2, g3, g4⟩ := k6 u (by omega)
      obtain ⟨x, x1, x2, x3⟩ := g4 (hk (by omega))
      have e : rin T sm (T.vl a) (q + 1) (u : Int) ↔ (T.vl x = T.vl a ∨ rin T sm (T.vl a) q (sm 113 u)) := by
        show (0 ≤ (u : Int) ∧ (T.vl (sm 107 (u : Int).toNat).toNat = T.vl a ∨ rin T sm (T.vl a) q (sm 113 (u : Int).toNat))) ↔ _
        rw [Int.toNat_natCast, x1, Int.toNat_natCast]
        exact ⟨fun y => y.2, fun y => ⟨by omega, y⟩⟩
      rw [show F + (q + 1) + 1 = (F + q + 1) + 1 by omega, j_240_62, if_neg c, gd_pos (by omega), Int.toNat_natCast, x1, m239 hT h x2 x3 ha ta, Option.bind_some]
      by_cases d : T.vl x = T.vl a
      · rw [p01_y d, if_neg (by decide), p01_y (e.mpr (Or.inl d))]
      · rw [p01_n d, if_pos rfl, gd_pos (by omega), ih (sm 113 u) F (by omega) (by omega) g3]
        congr 1
        exact p01_c ⟨fun y => e.mpr (Or.inr y), fun y => by rcases e.mp y with z | z; exact absurd z d; exact z⟩
/-- among a statement's own -/
theorem m240 (hT : TWF T) (h : TX T sc sm n t) (k : OWK T sm S A) (ha : a < T.z) (ta : T.tk a = 1) {i : Nat} {r : Int} (hi : i < S) (hr : r < (A : Int)) (hr2 : 0 ≤ r → sm 106 r.toNat = 2) : f_240 (i : Int) r (a : Int) sm = some (p01 (OWN T sm i r (T.vl a))) := by
  have k0 := k
  obtain ⟨k1, k2, k3, k4, k5, k6⟩ := k
  obtain ⟨p0, pc, g1, g2, g3, g4⟩ := k5 i hi
  have ch : j_240_59 r (a : Int) sm = some (p01 (rin T sm (T.vl a) 8200 r)) := by
    unfold j_240_59
    obtain ⟨F, hF⟩ := FU_split (k := 8200 + 1) (by omega)
    rw [hF]
    exact m240r hT h k0 ha ta 8200 r F (by omega) hr hr2
  have lp : ∀ (q l F : Nat), l + q = p0 + pc → p0 ≤ l → j_240_8 (F + q + 1) (i : Int) r (a : Int) (l : Int) sm = some (p01 ((∃ p, l ≤ p ∧ p < p0 + pc ∧ 0 ≤ sm 104 p ∧ T.vl (sm 104 p).toNat = T.vl a) ∨ rin T sm (T.vl a) 8200 r)) := by
    intro q
    induction q with
    | zero =>
      intro l F hl hp
      rw [j_240_8, gd_pos (by omega), gd_pos (by omega), Int.toNat_natCast, g1, g2, w32_add (by omega), if_pos (by omega), ch]
      congr 1
      exact p01_c ⟨fun y => Or.inr y, fun y => by
        rcases y with ⟨p, y1, y2, _⟩ | y
        · omega
        · exact y⟩
    | succ q ih =>
      intro l F hl hp
      have skip : ¬ (0 ≤ sm 104 l ∧ T.vl (sm 104 l).toNat = T.vl a) → j_240_53 (j_240_8 (F + q + 1)) (i : Int) r (a : Int) (l : Int) sm = some (p01 ((∃ p, l ≤ p ∧ p < p0 + pc ∧ 0 ≤ sm 104 p ∧ T.vl (sm 104 p).toNat = T.vl a) ∨ rin T sm (T.vl a) 8200 r)) := fun c => by
        unfold j_240_53
        rw [w32_nat (by omega), ih (l + 1) F (by omega) (by omega)]
        congr 1
        refine p01_c ⟨fun y => ?_, fun y => ?_⟩
        · rcases y with ⟨p, y1, y2, y3⟩ | y
          · exact Or.inl ⟨p, by omega, y2, y3⟩
          · exact Or.inr y
        · rcases y with ⟨p, y1, y2, y3⟩ | y
          · by_cases e : p = l
            · rw [e] at y3; exact absurd y3 c
            · exact Or.inl ⟨p, by omega, y2, y3⟩
          · exact Or.inr y
      rw [show F + (q + 1) + 1 = (F + q + 1) + 1 by omega, j_240_8, gd_pos (by omega), gd_pos (by omega), Int.toNat_natCast, Int.toNat_natCast, g1, g2, w32_add (by omega), if_neg (by omega), gd_pos (by omega)]
      by_cases c : sm 104 l < 0
      · rw [if_pos c]
        exact skip (fun y => by omega)
      · rw [if_neg c, gd_pos (by omega)]
        obtain ⟨x, x1, x2, x3⟩ := g4 l hp (by omega) (by omega)
        rw [x1, m239 hT h x2 x3 ha ta, Option.bind_some]
        by_cases d : T.vl x = T.vl a
        · rw [p01_y d, if_neg (by decide), p01_y (Or.inl ⟨l, Nat.le_refl _, by omega, by omega, by rw [x1, Int.toNat_natCast]; exact d⟩)]
        · rw [p01_n d, if_pos rfl]
          exact skip (fun y => by rw [x1, Int.toNat_natCast] at y; exact d y.2)
  unfold f_240
  obtain ⟨F, hF⟩ := FU_split (k := pc + 1) (by omega)
  have e0 := lp pc p0 F (by omega) (Nat.le_refl _)
  rw [show F + pc + 1 = FU by omega] at e0
  rw [gd_pos (by omega), Int.toNat_natCast, g1, e0]
  unfold OWN PIN
  rw [g1, g2, Int.toNat_natCast, Int.toNat_natCast]
/-- from what has been read -/
theorem DAT.owk {P N C w : Nat} (h : DAT T sc sm S P A N C w) (h19 : sm 84 19 = (S : Int)) (hS : S < 4100) (hP : P ≤ 8192) (hA : A ≤ 8192) : OWK T sm S A := by
  refine ⟨hS, hA, h19, fun i hi => ?_, fun i hi => ?_, fun a ha => ?_⟩
  · obtain ⟨x, p0, pc, n0, b1, b2, b3, b4, -⟩ := h.1 i hi
    exact ⟨x, b2, b3, b4⟩
  · obtain ⟨x, p0, pc, n0, b1, b2, b3, b4, b5, b6, b7, b8, b9, b10, b11⟩ := h.1 i hi
    refine ⟨p0, pc, b6, b7, by omega, fun p y z u => ?_⟩
    rcases b11 with ⟨c1, c2, c3, c4⟩ | ⟨c1, c2, c3, c4⟩ | ⟨c1, c2, c3, c4⟩ | ⟨c1, c2, ⟨f, c3, c4, c5, c6⟩, c7⟩
    · omega
    · omega
    · obtain ⟨st, e, m0, m1, d1, d2, d3, d4, d5, d6, d7, d8, d9, d10, d11, d12, d13⟩ := c4
      obtain ⟨k1, k2, k3, k4, k5⟩ := d13 (p - p0) (by omega)
      rw [show p0 + (p - p0) = p by omega] at k1
      exact ⟨x + 2 + 3 * (p - p0), k1, by omega, k4⟩
    · have mono : ∀ q j, j + q = pc → f j ≤ f pc := by
        intro q
        induction q with
        | zero => intro j hj; rw [show j = pc by omega]; exact Nat.le_refl _
        | succ q ih =>
          intro j hj
          have := ih (j + 1) (by omega)
          rcases c6 j (by omega) with ⟨_, _, _, g⟩ | ⟨_, _, _, _, _, g⟩ <;> omega
      have := mono (pc - (p - p0)) (p - p0) (by omega)
      rcases c6 (p - p0) (by omega) with ⟨g1, g2, g3, g4⟩ | ⟨g1, g2, g3, g4, g5, g6⟩
      · rw [show p0 + (p - p0) = p by omega] at g2
        omega
      · rw [show p0 + (p - p0) = p by omega] at g4
        exact ⟨f (p - p0), g4, by omega, g1⟩
  · obtain ⟨s, b1, b2, b3, b4, b5, b6, b7⟩ := h.2.1 a ha
    refine ⟨b4, b5, b6, fun y => ?_⟩
    rcases b7 with ⟨c1, -⟩ | ⟨c1, -⟩ | ⟨c1, ⟨x, c2, c3, c4⟩, -⟩ | ⟨c1, -⟩
    · omega
    · omega
    · exact ⟨x, c2, c3, c4⟩
    · omega
end MOW
/-! THE REFERENCE's checks: loops; the numbers. -/
/-- but for what is found, two states agree -/
def AG (s0 s : Sg) : Prop := (∀ c, c ≠ 84 → s c = s0 c) ∧ (∀ j, j ≠ 8 → s 84 j = s0 84 j)
/-- a check has told -/
def TLD (s s' : Sg) (k : Int) (p : Prop) : Prop := (∀ c, c ≠ 84 → s' c = s c) ∧ (∀ j, j ≠ 6 → j ≠ 7 → j ≠ 8 → s' 84 j = s 84 j) ∧ s' 84 8 = -1 ∧ (p → s' 84 6 = k) ∧ (¬ p → s' 84 6 = 0 ∧ s' = s)
/-- all that has been read, when it is checked -/
def CKX (T : TT) (sc sm : Sg) (n : Nat) (t : Nat → Int) (S P A N K C w : Nat) : Prop := TWF T ∧ TX T sc sm n t ∧ CC T sc ∧ DAT T sc sm S P A N C w ∧ ND T sc sm N K ∧ sm 84 19 = (S : Int) ∧ sm 84 31 = (P : Int) ∧ sm 84 34 = (A : Int) ∧ sm 84 30 = (w : Int) ∧ w < T.z ∧ T.tk w = 2 ∧ S < 4100 ∧ P ≤ 8192 ∧ A ≤ 8192 ∧ N ≤ 8192
section CKS
variable {T : TT} {sc sm s0 s s' s2 : Sg} {n a b S P A N K C w : Nat} {t : Nat → Int} {p q : Prop}
theorem AG.refl (s : Sg) : AG s s := ⟨fun _ _ => rfl, fun _ _ => rfl⟩
theorem AG.fd (h : AG s0 s) (k : FD s s' p) : AG s0 s' := ⟨fun c x => (k.1 c x).trans (h.1 c x), fun j x => (k.2.1 j x).trans (h.2 j x)⟩
theorem AG.tx (h : AG s0 s) (k : TX T sc s0 n t) : TX T sc s n t := k.mrow (h.2 3 (by decide)) (h.1 86 (by decide)) (h.1 89 (by decide)) (h.1 90 (by decide))
theorem FD.neg (h : FD s s' (¬ p)) : (0 ≤ s' 84 8 ↔ 0 ≤ s 84 8 ∨ ¬ p) := h.2.2
/-- a loop that finds -/
theorem loop_fd {j : Nat → Int → Sg → Option Sg} {tl : Sg → Option Sg} {bad : Nat → Prop} {M : Nat} (step : ∀ F i s, i < M → AG s0 s → ∃ s' : Sg, j (F + 1) (i : Int) s = j F ((i + 1 : Nat) : Int) s' ∧ FD s s' (bad i)) (stop : ∀ F s, AG s0 s → j (F + 1) (M : Int) s = tl s) :
    ∀ (r l F : Nat) (s : Sg), l + r = M → AG s0 s → ∃ s' : Sg, j (F + r + 1) (l : Int) s = tl s' ∧ FD s s' (∃ i, l ≤ i ∧ i < M ∧ bad i) ∧ AG s0 s' := by
  intro r
  induction r with
  | zero =>
    intro l F s hl ha
    rw [show l = M by omega]
    exact ⟨s, stop F s ha, (FD.refl s).iff ⟨fun y => y.elim, fun ⟨i, y, z, _⟩ => by omega⟩, ha⟩
  | succ r ih =>
    intro l F s hl ha
    obtain ⟨s1, e1, f1⟩ := step (F + r + 1) l s (by omega) ha
    obtain ⟨s', e2, f2, a2⟩ := ih (l + 1) F s1 (by omega) (ha.fd f1)
    refine ⟨s', by rw [show F + (r + 1) + 1 = (F + r + 1) + 1 by omega, e1, e2], (f1.trans f2).iff ⟨fun y => ?_, fun ⟨i, y, z, u⟩ => ?_⟩, a2⟩
    · rcases y with y | ⟨i, y, z, u⟩
      · exact ⟨l, Nat.le_refl _, by omega, y⟩
      · exact ⟨i, by omega, z, u⟩
    · by_cases e : i = l
      · rw [e] at u; exact Or.inl u
      · exact Or.inr ⟨i, by omega, z, u⟩
theorem loop_fu {j : Nat → Int → Sg → Option Sg} {tl : Sg → Option Sg} {bad : Nat → Prop} {M : Nat} (step : ∀ F i s, i < M → AG s0 s → ∃ s' : Sg, j (F + 1) (i : Int) s = j F ((i + 1 : Nat) : Int) s' ∧ FD s s' (bad i)) (stop : ∀ F s, AG s0 s → j (F + 1) (M : Int) s = tl s) (hM : M ≤ 9000) (ha : AG s0 s) : ∃ s' : Sg, j FU 0 s = tl s' ∧ FD s s' (∃ i, i < M ∧ bad i) ∧ AG s0 s' := by
  obtain ⟨F, hF⟩ := FU_split (k := M + 1) (by omega)
  obtain ⟨s', h1, h2, h3⟩ := loop_fd step stop M 0 F s (by omega) ha
  rw [show F + M + 1 = FU by omega] at h1
  exact ⟨s', h1, h2.iff ⟨fun ⟨i, _, y, z⟩ => ⟨i, y, z⟩, fun ⟨i, y, z⟩ => ⟨i, Nat.zero_le _, y, z⟩⟩, h3⟩
theorem m237 {k : Int} (h : FD sm s p) (h8 : sm 84 8 = -1) (h6 : sm 84 6 = 0) : ∃ s' : Sg, f_237 k s = some s' ∧ TLD sm s' k p := by
  obtain ⟨f1, f2, f3⟩ := h
  have e6 : s 84 6 = 0 := by rw [f2 6 (by decide)]; exact h6
  unfold f_237 j_237_16
  by_cases c : s 84 8 < 0
  · have np : ¬ p := fun y => by
      have := f3.mpr (Or.inr y)
      omega
    rw [if_pos c]
    have same : ax_u2 s 84 8 (-1) = sm := by
      funext c j
      by_cases hc : c = 84
      · subst hc
        by_cases hj : j = 8
        · subst hj; rw [u2_same, h8]
        · rw [u2_col _ _ _ hj, f2 j hj]
      · rw [u2_row _ _ _ hc, f1 c hc]
    exact ⟨_, rfl, fun c x => by rw [u2_row _ _ _ x, f1 c x], fun j x y z => by rw [u2_col _ _ _ z, f2 j z], u2_same _ _ _ _, fun y => absurd y np, fun _ => ⟨by rw [u2_col _ _ _ (by decide)]; exact e6, same⟩⟩
  · have py : p := by
      rcases f3.mp (by omega) with y | y
      · omega
      · exact y
    rw [if_neg c, Option.bind_some]
    unfold f_227
    rw [if_pos (by omega)]
    refine ⟨_, rfl, fun c x => by rw [u2_row _ _ _ x, u2_row _ _ _ x, u2_row _ _ _ x, f1 c x], fun j x y z => by rw [u2_col _ _ _ z, u2_col _ _ _ y, u2_col _ _ _ x, f2 j z], u2_same _ _ _ _, fun _ => ?_, fun y => absurd py y⟩
    rw [u2_col _ _ _ (by decide), u2_col _ _ _ (by decide)]
    exact u2_same _ _ _ _
def bdS (T : TT) (sm : Sg) (i : Nat) : Prop := ¬ ((sm 94 i < 3 → 1 ≤ T.vl (sm 97 i).toNat ∧ T.vl (sm 97 i).toNat ≤ 32) ∧ (sm 94 i = 1 → 1 ≤ T.vl (sm 96 i).toNat ∧ T.vl (sm 96 i).toNat ≤ 20) ∧ (sm 94 i = 0 → 0 ≤ sm 96 i → pw2 (T.vl (sm 96 i).toNat)))
def bdP (T : TT) (sc sm : Sg) (p : Nat) : Prop := ¬ ((0 ≤ sm 104 p → 1 ≤ T.vl (sm 105 p).toNat ∧ T.vl (sm 105 p).toNat ≤ 32) ∧ (sm 104 p < 0 → BIN sc (sm 105 p).toNat))
def bdA (T : TT) (sm : Sg) (a : Nat) : Prop := ¬ ((sm 106 a = 2 → 1 ≤ T.vl (sm 108 a).toNat ∧ T.vl (sm 108 a).toNat ≤ 255) ∧ (sm 106 a = 3 → T.vl (sm 108 a).toNat ≤ 255))
def bdN (T : TT) (sm : Sg) (n : Nat) : Prop := ¬ ((sm 116 n = 0 → 1 ≤ T.vl (sm 119 n).toNat ∧ T.vl (sm 119 n).toNat ≤ 32 ∧ T.vl (sm 118 n).toNat < 2 ^ (T.vl (sm 119 n).toNat).toNat) ∧ (sm 116 n = 4 ∨ sm 116 n = 5 → 1 ≤ T.vl (sm 119 n).toNat ∧ T.vl (sm 119 n).toNat ≤ 32) ∧ (sm 116 n = 7 → T.vl (sm 118 n).toNat ≤ 31 ∧ T.vl (sm 119 n).toNat ≤ 31 ∧ T.vl (sm 119 n).toNat ≤ T.vl (sm 118 n).toNat))
theorem pw2_d : ∀ k : Nat, k < 65 → 2 ≤ k → (ax_cmp (ax_land (k : Int) (ax_w64 ((k : Int) - 1))) 0 = 0 ↔ pw2 (k : Int)) := by
  unfold pw2
  decide +kernel
theorem shl_d : ∀ k : Nat, k < 33 → 1 ≤ k → ax_w64 (ax_lshl 1 (k : Int) - 1) = 2 ^ k - 1 := by decide +kernel
/-- statements -/
theorem ck4s (h : CKX T sc sm n t S P A N K C w) (F i : Nat) (s : Sg) (hi : i < S) (ha : AG sm s) : ∃ s' : Sg, j_210_15 (F + 1) (i : Int) s = j_210_15 F ((i + 1 : Nat) : Int) s' ∧ FD s s' (bdS T sm i) := by
  obtain ⟨hT, hX, hC, hD, hN, h19, h31, h34, h30, wz, tw, S8, P8, A8, N8⟩ := h
  have z8 := hT.1
  obtain ⟨hd, p0, pc, n0, b1, b2, b3, b4, b5, b6, b7, b8, b9, b10, b11⟩ := hD.1 i hi
  have r : ∀ c, c ≠ 84 → ∀ x : Sg, AG sm x → x c = sm c := fun c y x z => z.1 c y
  have k140 : ∀ x : Sg, j_210_140 (j_210_15 F) (i : Int) x = j_210_15 F ((i + 1 : Nat) : Int) x := fun x => by
    unfold j_210_140
    rw [w32_nat (by omega)]
  -- the third question
  have s3 : ∀ x : Sg, AG sm x → ∃ s' : Sg, j_210_73 (j_210_15 F) (i : Int) x = j_210_15 F ((i + 1 : Nat) : Int) s' ∧ FD x s' (¬ (sm 94 i = 0 → 0 ≤ sm 96 i → pw2 (T.vl (sm 96 i).toNat))) := by
    intro x hx
    unfold j_210_73
    rw [gd_pos (by omega), Int.toNat_natCast, r 94 (by decide) x hx, r 96 (by decide) x hx]
    by_cases c0 : sm 94 i = 0
    · rw [if_neg (fun e => e c0), gd_pos (by omega)]
      by_cases c1 : sm 96 i < 0
      · rw [if_pos c1, k140]
        exact ⟨x, rfl, (FD.refl x).iff ⟨fun y => y.elim, fun y => absurd (fun _ z => absurd z (by omega)) y⟩⟩
      · rw [if_neg c1, gd_pos (by omega)]
        have kc : SKC T sc sm i := by
          rcases b11 with ⟨_, _, _, u⟩ | ⟨u, -⟩ | ⟨u, -⟩ | ⟨u, -⟩
          · rcases u with u | u
            · omega
            · exact u
          · omega
          · omega
          · omega
        obtain ⟨c, g1, g2, g3, g4⟩ := kc
        rw [g1, m218 hT (hx.tx hX) g2 g3, Option.bind_some, within_eq, Int.toNat_natCast]
        have v0 := hT.2.2.2.2.1 c g2
        have k125 : ∃ s' : Sg, j_210_125 (j_210_15 F) (i : Int) x = j_210_15 F ((i + 1 : Nat) : Int) s' ∧ FD x s' True := by
          unfold j_210_125
          obtain ⟨i1, j1, _, _, d1, _⟩ := hX.nu g2 g3
          rw [gd_pos (by omega), Int.toNat_natCast, r 96 (by decide) x hx, g1, gd_pos (by omega), Int.toNat_natCast, r 89 (by decide) x hx, d1, Option.bind_some, k140]
          exact ⟨_, rfl, m235 (by omega)⟩
        by_cases c2 : 2 ≤ T.vl c ∧ T.vl c ≤ 64
        · rw [if_pos c2, if_neg (by decide)]
          have pd := pw2_d (T.vl c).toNat (by omega) (by omega)
          rw [Int.toNat_of_nonneg v0.1] at pd
          by_cases c3 : pw2 (T.vl c)
          · rw [if_pos (pd.mpr c3), k140]
            exact ⟨x, rfl, (FD.refl x).iff ⟨fun y => y.elim, fun y => absurd (fun _ _ => c3) y⟩⟩
          · rw [if_neg (fun e => c3 (pd.mp e))]
            obtain ⟨s', e1, e2⟩ := k125
            exact ⟨s', e1, e2.iff ⟨fun _ y => c3 (y c0 (by omega)), fun _ => trivial⟩⟩
        · rw [if_neg c2, if_pos rfl]
          obtain ⟨s', e1, e2⟩ := k125
          refine ⟨s', e1, e2.iff ⟨fun _ y => ?_, fun _ => trivial⟩⟩
          have := y c0 (by omega)
          unfold pw2 at this
          omega
    · rw [if_pos c0, k140]
      exact ⟨x, rfl, (FD.refl x).iff ⟨fun y => y.elim, fun y => absurd (fun z => absurd z c0) y⟩⟩
  have s2 : ∀ x : Sg, AG sm x → ∃ s' : Sg, j_210_48 (j_210_15 F) (i : Int) x = j_210_15 F ((i + 1 : Nat) : Int) s' ∧ FD x s' (¬ (sm 94 i = 1 → 1 ≤ T.vl (sm 96 i).toNat ∧ T.vl (sm 96 i).toNat ≤ 20) ∨ ¬ (sm 94 i = 0 → 0 ≤ sm 96 i → pw2 (T.vl (sm 96 i).toNat))) := by
    intro x hx
    unfold j_210_48
    rw [gd_pos (by omega), Int.toNat_natCast, r 94 (by decide) x hx, r 96 (by decide) x hx]
    by_cases c0 : sm 94 i = 1
    · rw [if_neg (fun e => e c0), gd_pos (by omega)]
      have kc : SKC T sc sm i := by
        rcases b11 with ⟨u, -⟩ | ⟨_, _, _, u⟩ | ⟨u, -⟩ | ⟨u, -⟩
        · omega
        · exact u
        · omega
        · omega
      obtain ⟨c, g1, g2, g3, g4⟩ := kc
      obtain ⟨x1, e1, e2⟩ := m234 hT (hx.tx hX) g2 g3 1 20
      obtain ⟨x2, e3, e4⟩ := s3 x1 (hx.fd e2)
      rw [g1, e1, Option.bind_some]
      refine ⟨x2, e3, (e2.trans e4).iff ?_⟩
      rw [g1, Int.toNat_natCast]
      exact ⟨fun y => by
        rcases y with y | y
        · exact Or.inl (fun z => y (z c0))
        · exact Or.inr y, fun y => by
        rcases y with y | y
        · exact Or.inl (fun z => y (fun _ => z))
        · exact Or.inr y⟩
    · rw [if_pos c0]
      obtain ⟨x2, e3, e4⟩ := s3 x hx
      exact ⟨x2, e3, e4.iff ⟨fun y => Or.inr y, fun y => by
        rcases y with y | y
        · exact absurd (fun z => absurd z c0) y
        · exact y⟩⟩
  rw [j_210_15, ha.2 19 (by decide), h19, if_neg (by omega), gd_pos (by omega), Int.toNat_natCast, r 94 (by decide) s ha, r 97 (by decide) s ha]
  unfold bdS
  by_cases c0 : 3 ≤ sm 94 i
  · rw [if_pos c0]
    obtain ⟨x2, e3, e4⟩ := s2 s ha
    refine ⟨x2, e3, e4.iff ⟨fun y z => ?_, fun y => ?_⟩⟩
    · rcases y with y | y
      · exact y z.2.1
      · exact y z.2.2
    · apply Classical.byContradiction
      intro hn
      exact y ⟨fun z => absurd z (by omega), Classical.byContradiction (fun u => hn (Or.inl u)), Classical.byContradiction (fun u => hn (Or.inr u))⟩
  · rw [if_neg c0, gd_pos (by omega)]
    have kw : SKW T sc sm i := by
      rcases b11 with ⟨_, _, u, _⟩ | ⟨_, _, u, _⟩ | ⟨_, _, u, _⟩ | ⟨u, -⟩
      · exact u
      · exact u
      · exact u
      · omega
    obtain ⟨c, g1, g2, g3, g4⟩ := kw
    obtain ⟨x1, e1, e2⟩ := m234 hT (ha.tx hX) g2 g3 1 32
    obtain ⟨x2, e3, e4⟩ := s2 x1 (ha.fd e2)
    rw [g1, e1, Option.bind_some]
    refine ⟨x2, e3, (e2.trans e4).iff ?_⟩
    first | rw [g1, Int.toNat_natCast] | rw [Int.toNat_natCast]
    constructor
    · intro y z
      rcases y with y | y | y
      · exact y (z.1 (by omega))
      · exact y z.2.1
      · exact y z.2.2
    · intro y
      apply Classical.byContradiction
      intro hn
      exact y ⟨fun _ => Classical.byContradiction (fun u => hn (Or.inl u)), Classical.byContradiction (fun u => hn (Or.inr (Or.inl u))), Classical.byContradiction (fun u => hn (Or.inr (Or.inr u)))⟩
end CKS
/-! THE REFERENCE's checks: the numbers, on. -/
section CK4
variable {T : TT} {sc sm s s' : Sg} {n a b S P A N K C w : Nat} {t : Nat → Int}
/-- a part's number -/
theorem DAT.prt (h : DAT T sc sm S P A N C w) {p : Nat} (hp : p < P) : ∃ x : Nat, sm 105 p = (x : Int) ∧ x < T.z ∧ T.tk x = 2 ∧ -1 ≤ sm 104 p := by
  obtain ⟨i, hi, k1, k2⟩ := h.2.2.2.2.2.2.2.1.1 p hp
  obtain ⟨x, p0, pc, n0, b1, b2, b3, b4, b5, b6, b7, b8, b9, b10, b11⟩ := h.1 i hi
  rw [b6, Int.toNat_natCast] at k1
  rw [b6, b7, Int.toNat_natCast, Int.toNat_natCast] at k2
  rcases b11 with ⟨c1, c2, c3, c4⟩ | ⟨c1, c2, c3, c4⟩ | ⟨c1, c2, c3, c4⟩ | ⟨c1, c2, ⟨f, c3, c4, c5, c6⟩, c7⟩
  · omega
  · omega
  · obtain ⟨st, e, m0, m1, d1, d2, d3, d4, d5, d6, d7, d8, d9, d10, d11, d12, d13⟩ := c4
    obtain ⟨g1, g2, g3, g4, g5⟩ := d13 (p - p0) (by omega)
    rw [show p0 + (p - p0) = p by omega] at g1 g2
    exact ⟨_, g2, g3, g5, by omega⟩
  · have mono : ∀ q j, j + q = pc → f j ≤ f pc := by
      intro q
      induction q with
      | zero => intro j hj; rw [show j = pc by omega]; exact Nat.le_refl _
      | succ q ih =>
        intro j hj
        have := ih (j + 1) (by omega)
        rcases c6 j (by omega) with ⟨_, _, _, g⟩ | ⟨_, _, _, _, _, g⟩ <;> omega
    have := mono (pc - (p - p0) - 1) (p - p0 + 1) (by omega)
    rcases c6 (p - p0) (by omega) with ⟨g1, g2, g3, g4⟩ | ⟨g1, g2, g3, g4, g5, g6⟩
    · rw [show p0 + (p - p0) = p by omega] at g2 g3
      exact ⟨_, g3, by omega, g1, by omega⟩
    · rw [show p0 + (p - p0) = p by omega] at g4 g5
      exact ⟨_, g5, by omega, g3, by omega⟩
theorem ck4p (h : CKX T sc sm n t S P A N K C w) (F i : Nat) (s : Sg) (hi : i < P) (ha : AG sm s) : ∃ s' : Sg, j_210_148 (F + 1) (i : Int) s = j_210_148 F ((i + 1 : Nat) : Int) s' ∧ FD s s' (bdP T sc sm i) := by
  obtain ⟨hT, hX, hC, hD, hN, h19, h31, h34, h30, wz, tw, S8, P8, A8, N8⟩ := h
  have z8 := hT.1
  have k211 : ∀ x : Sg, j_210_211 (j_210_148 F) (i : Int) x = j_210_148 F ((i + 1 : Nat) : Int) x := fun x => by
    unfold j_210_211
    rw [w32_nat (by omega)]
  obtain ⟨x, g1, g2, g3, g4⟩ := hD.prt hi
  rw [j_210_148, ha.2 31 (by decide), h31, if_neg (by omega), gd_pos (by omega), Int.toNat_natCast, ha.1 104 (by decide), ha.1 105 (by decide), g1]
  unfold bdP
  rw [g1, Int.toNat_natCast]
  by_cases c : sm 104 i < 0
  · rw [if_pos c, gd_pos (by omega), m236 hT hC (ha.tx hX) g2 g3, Option.bind_some]
    by_cases d : BIN sc x
    · rw [p01_y d, if_pos (by decide), k211]
      exact ⟨s, rfl, (FD.refl s).iff ⟨fun y => y.elim, fun y => absurd ⟨fun z => absurd z (by omega), fun _ => d⟩ y⟩⟩
    · obtain ⟨i1, j1, _, _, d1, _⟩ := hX.nu g2 g3
      rw [p01_n d, if_neg (by decide), gd_pos (by omega), gd_pos (by omega), ha.1 89 (by decide), d1, Option.bind_some, k211]
      exact ⟨_, rfl, (m235 (by omega)).iff ⟨fun _ y => d (y.2 c), fun _ => trivial⟩⟩
  · obtain ⟨x1, e1, e2⟩ := m234 hT (ha.tx hX) g2 g3 1 32
    rw [if_neg c, gd_pos (by omega), e1, Option.bind_some]
    refine ⟨x1, k211 x1, e2.iff ⟨fun y z => y (z.1 (by omega)), fun y z => y ⟨fun _ => z, fun u => absurd u c⟩⟩⟩
theorem ck4a (h : CKX T sc sm n t S P A N K C w) (F i : Nat) (s : Sg) (hi : i < A) (ha : AG sm s) : ∃ s' : Sg, j_210_219 (F + 1) (i : Int) s = j_210_219 F ((i + 1 : Nat) : Int) s' ∧ FD s s' (bdA T sm i) := by
  obtain ⟨hT, hX, hC, hD, hN, h19, h31, h34, h30, wz, tw, S8, P8, A8, N8⟩ := h
  have z8 := hT.1
  have k277 : ∀ x : Sg, j_210_277 (j_210_219 F) (i : Int) x = j_210_219 F ((i + 1 : Nat) : Int) x := fun x => by
    unfold j_210_277
    rw [w32_nat (by omega)]
  obtain ⟨si, b1, b2, b3, b4, b5, b6, b7⟩ := hD.2.1 i hi
  have nu : sm 106 i = 2 ∨ sm 106 i = 3 → ∃ x : Nat, sm 108 i = (x : Int) ∧ x < T.z ∧ T.tk x = 2 := fun y => by
    rcases b7 with ⟨c1, -⟩ | ⟨c1, -⟩ | ⟨c1, _, u⟩ | ⟨c1, u⟩
    · omega
    · omega
    · exact u
    · exact u
  have s2 : ∀ x : Sg, AG sm x → ∃ s' : Sg, j_210_252 (j_210_219 F) (i : Int) x = j_210_219 F ((i + 1 : Nat) : Int) s' ∧ FD x s' (¬ (sm 106 i = 3 → T.vl (sm 108 i).toNat ≤ 255)) := by
    intro x hx
    unfold j_210_252
    rw [gd_pos (by omega), Int.toNat_natCast, hx.1 106 (by decide), hx.1 108 (by decide)]
    by_cases c : sm 106 i = 3
    · obtain ⟨y, g1, g2, g3⟩ := nu (Or.inr c)
      have v0 := hT.2.2.2.2.1 y g2
      obtain ⟨x1, e1, e2⟩ := m234 hT (hx.tx hX) g2 g3 0 255
      rw [if_neg (fun e => e c), gd_pos (by omega), g1, e1, Option.bind_some, Int.toNat_natCast]
      exact ⟨x1, k277 x1, e2.iff ⟨fun u v => u ⟨v0.1, v c⟩, fun u v => u (fun _ => v.2)⟩⟩
    · rw [if_pos c, k277]
      exact ⟨x, rfl, (FD.refl x).iff ⟨fun y => y.elim, fun y => absurd (fun z => absurd z c) y⟩⟩
  rw [j_210_219, ha.2 34 (by decide), h34, if_neg (by omega), gd_pos (by omega), Int.toNat_natCast, ha.1 106 (by decide), ha.1 108 (by decide)]
  unfold bdA
  by_cases c : sm 106 i = 2
  · obtain ⟨y, g1, g2, g3⟩ := nu (Or.inl c)
    obtain ⟨x1, e1, e2⟩ := m234 hT (ha.tx hX) g2 g3 1 255
    obtain ⟨x2, e3, e4⟩ := s2 x1 (ha.fd e2)
    rw [if_neg (fun e => e c), gd_pos (by omega), g1, e1, Option.bind_some]
    refine ⟨x2, e3, (e2.trans e4).iff ?_⟩
    first | rw [g1, Int.toNat_natCast] | rw [Int.toNat_natCast]
    exact ⟨fun u v => by
      rcases u with u | u
      · exact u (v.1 c)
      · exact u v.2, fun u => by
      apply Classical.byContradiction
      intro hn
      exact u ⟨fun _ => Classical.byContradiction (fun v => hn (Or.inl v)), Classical.byContradiction (fun v => hn (Or.inr v))⟩⟩
  · rw [if_pos c]
    obtain ⟨x2, e3, e4⟩ := s2 s ha
    exact ⟨x2, e3, e4.iff ⟨fun u v => u v.2, fun u v => u ⟨fun z => absurd z c, v⟩⟩⟩
theorem ck4n (h : CKX T sc sm n t S P A N K C w) (F i : Nat) (s : Sg) (hi : i < N) (ha : AG sm s) : ∃ s' : Sg, j_210_285 (F + 1) (i : Int) s = j_210_285 F ((i + 1 : Nat) : Int) s' ∧ FD s s' (bdN T sm i) := by
  obtain ⟨hT, hX, hC, hD, hN, h19, h31, h34, h30, wz, tw, S8, P8, A8, N8⟩ := h
  have z8 := hT.1
  have k467 : ∀ x : Sg, j_210_467 (j_210_285 F) (i : Int) x = j_210_285 F ((i + 1 : Nat) : Int) x := fun x => by
    unfold j_210_467
    rw [w32_nat (by omega)]
  obtain ⟨c, q, -, -, -, -, -, nr6, nr7, -, -, -, -, -, nv⟩ := hN.2.2.2 i hi
  obtain ⟨v1, v2, v3, v4, v5⟩ := nv
  have cmp0 : ∀ x y : Int, 0 ≤ ax_cmp x y ↔ y ≤ x := fun x y => by
    have := cmp_lt (x := x) (y := y)
    omega
  -- a slice
  have s3 : ∀ x : Sg, AG sm x → ∃ s' : Sg, j_210_381 (j_210_285 F) (i : Int) x = j_210_285 F ((i + 1 : Nat) : Int) s' ∧ FD x s' (¬ (sm 116 i = 7 → T.vl (sm 118 i).toNat ≤ 31 ∧ T.vl (sm 119 i).toNat ≤ 31 ∧ T.vl (sm 119 i).toNat ≤ T.vl (sm 118 i).toNat)) := by
    intro x hx
    unfold j_210_381
    rw [gd_pos (by omega), Int.toNat_natCast, hx.1 116 (by decide), hx.1 118 (by decide)]
    by_cases c7 : sm 116 i = 7
    · obtain ⟨xa, xb, g1, g2, g3, g4, g5, g6, -⟩ := v3 c7
      have va := hT.2.2.2.2.1 xa g3
      have vb := hT.2.2.2.2.1 xb g4
      obtain ⟨x1, e1, e2⟩ := m234 hT (hx.tx hX) g3 g5 0 31
      have a1 := hx.fd e2
      obtain ⟨x2, e3, e4⟩ := m234 hT (a1.tx hX) g4 g6 0 31
      have a2 := a1.fd e4
      rw [if_neg (fun e => e c7), gd_pos (by omega), g1, e1, Option.bind_some, gd_pos (by omega)]
      dsimp only
      rw [a1.1 119 (by decide), g2, e3, Option.bind_some]
      dsimp only
      rw [Int.toNat_natCast, Int.toNat_natCast]
      have f2 := e2.trans e4
      by_cases d2 : 0 ≤ T.vl xb ∧ T.vl xb ≤ 31
      · rw [p01_y d2, if_neg (by decide)]
        by_cases d1 : 0 ≤ T.vl xa ∧ T.vl xa ≤ 31
        · rw [p01_y d1, if_neg (by decide), gd_pos (by omega), a2.1 118 (by decide), a2.1 119 (by decide), g1, g2, m218 hT (a2.tx hX) g3 g5, Option.bind_some, gd_pos (by omega), m218 hT (a2.tx hX) g4 g6, Option.bind_some]
          by_cases d3 : T.vl xb ≤ T.vl xa
          · rw [if_pos ((cmp0 _ _).mpr d3), k467]
            exact ⟨x2, rfl, f2.iff ⟨fun y => by
              rcases y with y | y
              · exact absurd d1 y
              · exact absurd d2 y, fun y => absurd (fun _ => ⟨d1.2, d2.2, d3⟩) y⟩⟩
          · obtain ⟨i1, j1, _, _, w1, _⟩ := hX.nu g4 g6
            rw [if_neg (fun e => d3 ((cmp0 _ _).mp e)), gd_pos (by omega), gd_pos (by omega), Int.toNat_natCast, a2.1 89 (by decide), w1, Option.bind_some, k467]
            exact ⟨_, rfl, (f2.trans (m235 (by omega))).iff ⟨fun _ y => d3 (y c7).2.2, fun _ => Or.inr trivial⟩⟩
        · rw [p01_n d1, if_pos rfl, k467]
          exact ⟨x2, rfl, f2.iff ⟨fun _ y => d1 ⟨va.1, (y c7).1⟩, fun _ => Or.inl d1⟩⟩
      · rw [p01_n d2, if_pos rfl, k467]
        exact ⟨x2, rfl, f2.iff ⟨fun _ y => d2 ⟨vb.1, (y c7).2.1⟩, fun _ => Or.inr d2⟩⟩
    · rw [if_pos c7, k467]
      exact ⟨x, rfl, (FD.refl x).iff ⟨fun y => y.elim, fun y => absurd (fun z => absurd z c7) y⟩⟩
  have s2 : ∀ x : Sg, AG sm x → ∃ s' : Sg, j_210_328 (j_210_285 F) (i : Int) x = j_210_285 F ((i + 1 : Nat) : Int) s' ∧ FD x s' (¬ (sm 116 i = 0 → 1 ≤ T.vl (sm 119 i).toNat ∧ T.vl (sm 119 i).toNat ≤ 32 ∧ T.vl (sm 118 i).toNat < 2 ^ (T.vl (sm 119 i).toNat).toNat) ∨ ¬ (sm 116 i = 7 → T.vl (sm 118 i).toNat ≤ 31 ∧ T.vl (sm 119 i).toNat ≤ 31 ∧ T.vl (sm 119 i).toNat ≤ T.vl (sm 118 i).toNat)) := by
    intro x hx
    unfold j_210_328
    rw [gd_pos (by omega), Int.toNat_natCast, hx.1 116 (by decide), hx.1 119 (by decide)]
    by_cases c0 : sm 116 i = 0
    · obtain ⟨xa, xb, g1, g2, g3, g4, g5, g6, -⟩ := v1 c0
      have va := hT.2.2.2.2.1 xa g3
      have vb := hT.2.2.2.2.1 xb g4
      obtain ⟨x1, e1, e2⟩ := m234 hT (hx.tx hX) g4 g6 1 32
      have a1 := hx.fd e2
      have n7 : ¬ ¬ (sm 116 i = 7 → T.vl (sm 118 i).toNat ≤ 31 ∧ T.vl (sm 119 i).toNat ≤ 31 ∧ T.vl (sm 119 i).toNat ≤ T.vl (sm 118 i).toNat) := fun y => y (fun z => absurd z (by omega))
      rw [if_neg (fun e => e c0), gd_pos (by omega), g2, e1, Option.bind_some]
      dsimp only
      by_cases d2 : 1 ≤ T.vl xb ∧ T.vl xb ≤ 32
      · rw [p01_y d2, if_neg (by decide), gd_pos (by omega), gd_pos (by omega), a1.1 119 (by decide), a1.1 118 (by decide), g2, g1, m218 hT (a1.tx hX) g4 g6, Option.bind_some]
        have sh := shl_d (T.vl xb).toNat (by omega) (by omega)
        rw [Int.toNat_of_nonneg vb.1] at sh
        rw [w32_id (z := T.vl xb) (by omega) (by omega), sh]
        obtain ⟨x2, e3, e4⟩ := m234 hT (a1.tx hX) g3 g5 0 (2 ^ (T.vl xb).toNat - 1)
        obtain ⟨x3, e5, e6⟩ := s3 x2 (a1.fd e4)
        rw [e3, Option.bind_some]
        refine ⟨x3, e5, ((e2.trans e4).trans e6).iff ?_⟩
        first | rw [g1, g2, Int.toNat_natCast, Int.toNat_natCast] | rw [g1, Int.toNat_natCast, Int.toNat_natCast] | rw [g2, Int.toNat_natCast, Int.toNat_natCast] | rw [Int.toNat_natCast, Int.toNat_natCast]
        rw [g1, g2, Int.toNat_natCast, Int.toNat_natCast] at n7
        exact ⟨fun y => by
          rcases y with (y | y) | y
          · exact absurd d2 y
          · exact Or.inl (fun z => y ⟨va.1, by have := (z c0).2.2; omega⟩)
          · exact absurd y n7, fun y => by
          rcases y with y | y
          · exact Or.inl (Or.inr (fun z => y (fun _ => ⟨d2.1, d2.2, by omega⟩)))
          · exact absurd y n7⟩
      · rw [p01_n d2, if_pos rfl]
        obtain ⟨x3, e5, e6⟩ := s3 x1 a1
        refine ⟨x3, e5, (e2.trans e6).iff ?_⟩
        first | rw [g1, g2, Int.toNat_natCast, Int.toNat_natCast] | rw [g1, Int.toNat_natCast, Int.toNat_natCast] | rw [g2, Int.toNat_natCast, Int.toNat_natCast] | rw [Int.toNat_natCast, Int.toNat_natCast]
        rw [g1, g2, Int.toNat_natCast, Int.toNat_natCast] at n7
        exact ⟨fun y => by
          rcases y with y | y
          · exact Or.inl (fun z => y ⟨(z c0).1, (z c0).2.1⟩)
          · exact absurd y n7, fun y => by
          rcases y with y | y
          · exact Or.inl d2
          · exact absurd y n7⟩
    · rw [if_pos c0]
      obtain ⟨x3, e5, e6⟩ := s3 x hx
      exact ⟨x3, e5, e6.iff ⟨fun y => Or.inr y, fun y => by
        rcases y with y | y
        · exact absurd (fun z => absurd z c0) y
        · exact y⟩⟩
  have s1 : sm 116 i = 4 ∨ sm 116 i = 5 → ∃ s' : Sg, j_210_313 (j_210_285 F) (i : Int) s = j_210_285 F ((i + 1 : Nat) : Int) s' ∧ FD s s' (bdN T sm i) := by
    intro c4
    obtain ⟨xb, g2, g4, g6, -⟩ := v2 c4
    obtain ⟨x1, e1, e2⟩ := m234 hT (ha.tx hX) g4 g6 1 32
    obtain ⟨x2, e3, e4⟩ := s2 x1 (ha.fd e2)
    unfold j_210_313
    rw [gd_pos (by omega), Int.toNat_natCast, ha.1 119 (by decide), g2, e1, Option.bind_some]
    refine ⟨x2, e3, (e2.trans e4).iff ?_⟩
    unfold bdN
    first | rw [g2, Int.toNat_natCast] | rw [Int.toNat_natCast]
    exact ⟨fun u v => by
      rcases u with u | u | u
      · exact u (v.2.1 c4)
      · exact u v.1
      · exact u v.2.2, fun u => by
      apply Classical.byContradiction
      intro hn
      exact u ⟨Classical.byContradiction (fun v => hn (Or.inr (Or.inl v))), fun _ => Classical.byContradiction (fun v => hn (Or.inl v)), Classical.byContradiction (fun v => hn (Or.inr (Or.inr v)))⟩⟩
  rw [j_210_285, ha.2 47 (by decide), hN.2.1, if_neg (by omega), gd_pos (by omega), Int.toNat_natCast, ha.1 116 (by decide)]
  by_cases c4 : sm 116 i = 4
  · rw [if_pos c4]; exact s1 (Or.inl c4)
  · rw [if_neg c4, gd_pos (by omega)]
    by_cases c5 : sm 116 i = 5
    · rw [if_neg (fun e => e c5)]; exact s1 (Or.inr c5)
    · rw [if_pos c5]
      obtain ⟨x2, e3, e4⟩ := s2 s ha
      refine ⟨x2, e3, e4.iff ?_⟩
      unfold bdN
      exact ⟨fun u v => by
        rcases u with u | u
        · exact u v.1
        · exact u v.2.2, fun u => by
        apply Classical.byContradiction
        intro hn
        exact u ⟨Classical.byContradiction (fun v => hn (Or.inl v)), fun z => by omega, Classical.byContradiction (fun v => hn (Or.inr v))⟩⟩
def BD4 (T : TT) (sc sm : Sg) (S P A N w : Nat) : Prop := ¬ (1 ≤ T.vl w ∧ T.vl w ≤ 64) ∨ (∃ i, i < S ∧ bdS T sm i) ∨ (∃ i, i < P ∧ bdP T sc sm i) ∨ (∃ i, i < A ∧ bdA T sm i) ∨ (∃ i, i < N ∧ bdN T sm i)
theorem ck4 (h : CKX T sc sm n t S P A N K C w) (h8 : sm 84 8 = -1) (h6 : sm 84 6 = 0) : ∃ s' : Sg, f_210 sm = some s' ∧ TLD sm s' 4 (BD4 T sc sm S P A N w) := by
  obtain ⟨hT, hX, hC, hD, hN, h19, h31, h34, h30, wz, tw, S8, P8, A8, N8⟩ := id h
  obtain ⟨s1, e1, f1⟩ := m234 hT hX wz tw 1 64
  obtain ⟨s2, e2, f2, a2⟩ := loop_fu (j := j_210_15) (tl := j_210_146) (s0 := sm) (M := S) (fun F i s x y => ck4s h F i s x y) (fun F s y => by rw [j_210_15, y.2 19 (by decide), h19, if_pos (by omega)]) (by omega) ((AG.refl sm).fd f1)
  obtain ⟨s3, e3, f3, a3⟩ := loop_fu (j := j_210_148) (tl := j_210_217) (s0 := sm) (M := P) (fun F i s x y => ck4p h F i s x y) (fun F s y => by rw [j_210_148, y.2 31 (by decide), h31, if_pos (by omega)]) (by omega) a2
  obtain ⟨s4, e4, f4, a4⟩ := loop_fu (j := j_210_219) (tl := j_210_283) (s0 := sm) (M := A) (fun F i s x y => ck4a h F i s x y) (fun F s y => by rw [j_210_219, y.2 34 (by decide), h34, if_pos (by omega)]) (by omega) a3
  obtain ⟨s5, e5, f5, a5⟩ := loop_fu (j := j_210_285) (tl := j_210_473) (s0 := sm) (M := N) (fun F i s x y => ck4n h F i s x y) (fun F s y => by rw [j_210_285, y.2 47 (by decide), hN.2.1, if_pos (by omega)]) (by omega) a4
  obtain ⟨s6, e6, t6⟩ := m237 (k := 4) ((((f1.trans f2).trans f3).trans f4).trans f5) h8 h6
  refine ⟨s6, ?_, ?_⟩
  · unfold f_210
    rw [h30, e1, Option.bind_some]
    show j_210_15 FU 0 s1 = _
    rw [e2]
    show j_210_148 FU 0 s2 = _
    rw [e3]
    show j_210_219 FU 0 s3 = _
    rw [e4]
    show j_210_285 FU 0 s4 = _
    rw [e5]
    unfold j_210_473
    rw [e6, Option.bind_some]
  · obtain ⟨t1, t2, t3, t4, t5⟩ := t6
    have e : ((((¬ (1 ≤ T.vl w ∧ T.vl w ≤ 64)) ∨ (∃ i, i < S ∧ bdS T sm i)) ∨ (∃ i, i < P ∧ bdP T sc sm i)) ∨ (∃ i, i < A ∧ bdA T sm i)) ∨ (∃ i, i < N ∧ bdN T sm i) ↔ BD4 T sc sm S P A N w := by
      unfold BD4
      rw [or_assoc, or_assoc, or_assoc]
    rw [e] at t4 t5
    exact ⟨t1, t2, t3, t4, t5⟩
end CK4
/-! THE REFERENCE's checks: twice, unknown. -/
section CK5
variable {T : TT} {sc sm s s' : Sg} {n a b S P A N K C w i : Nat} {t : Nat → Int} {r v : Int}
theorem rin_rows (h7 : s 107 = sm 107) (h13 : s 113 = sm 113) : ∀ (k : Nat) (r : Int), rin T s v k r ↔ rin T sm v k r := by
  intro k
  induction k with
  | zero => intro r; exact Iff.rfl
  | succ k ih =>
    intro r
    show (0 ≤ r ∧ (T.vl (s 107 r.toNat).toNat = v ∨ rin T s v k (s 113 r.toNat))) ↔ (0 ≤ r ∧ (T.vl (sm 107 r.toNat).toNat = v ∨ rin T sm v k (sm 113 r.toNat)))
    rw [h7, h13, ih]
theorem AG.own (h : AG sm s) : OWN T s i r v ↔ OWN T sm i r v := by
  unfold OWN PIN
  rw [h.1 98 (by decide), h.1 99 (by decide), h.1 104 (by decide), rin_rows (h.1 107 (by decide)) (h.1 113 (by decide))]
theorem AG.owk (h : AG sm s) (k : OWK T sm S A) : OWK T s S A := by
  unfold OWK NMD at *
  rw [h.2 19 (by decide), h.1 95 (by decide), h.1 98 (by decide), h.1 99 (by decide), h.1 104 (by decide), h.1 113 (by decide), h.1 106 (by decide), h.1 107 (by decide)]
  exact k
theorem AG.sof (h : AG sm s) : SOF T s S v r ↔ SOF T sm S v r := by
  unfold SOF
  rw [h.1 95 (by decide)]
theorem CKX.owk (h : CKX T sc sm n t S P A N K C w) : OWK T sm S A := by
  obtain ⟨hT, hX, hC, hD, hN, h19, h31, h34, h30, wz, tw, S8, P8, A8, N8⟩ := h
  exact hD.owk h19 S8 P8 A8
/-- an action's rep and place -/
theorem DAT.act (h : DAT T sc sm S P A N C w) (ha : a < A) : ∃ si : Nat, sm 112 a = (si : Int) ∧ si < S ∧ sm 113 a < (A : Int) ∧ (0 ≤ sm 113 a → sm 106 (sm 113 a).toNat = 2) ∧ (sm 106 a = 0 ∨ sm 106 a = 2 → ∃ x : Nat, sm 107 a = (x : Int) ∧ x < T.z ∧ T.tk x = 1) := by
  obtain ⟨si, b1, b2, b3, b4, b5, b6, b7⟩ := h.2.1 a ha
  refine ⟨si, b1, b2, by omega, b6, fun y => ?_⟩
  rcases b7 with ⟨c1, u, -⟩ | ⟨c1, -⟩ | ⟨c1, u, -⟩ | ⟨c1, -⟩
  · exact u
  · omega
  · exact u
  · omega
/-- two of one name in a statement -/
def dbl (T : TT) (sm : Sg) (p q : Nat) : Prop := 0 ≤ sm 104 p ∧ 0 ≤ sm 104 q ∧ T.vl (sm 104 p).toNat = T.vl (sm 104 q).toNat
def bd5s (T : TT) (sm : Sg) (i : Nat) : Prop := (∃ j, j < i ∧ T.vl (sm 95 j).toNat = T.vl (sm 95 i).toNat) ∨ (∃ p, (sm 98 i).toNat ≤ p ∧ p < (sm 98 i).toNat + (sm 99 i).toNat ∧ ∃ q, (sm 98 i).toNat ≤ q ∧ q < p ∧ dbl T sm p q)
def bd5a (T : TT) (sm : Sg) (a : Nat) : Prop := sm 106 a = 2 ∧ OWN T sm (sm 112 a).toNat (sm 113 a) (T.vl (sm 107 a).toNat)
theorem ck5s (h : CKX T sc sm n t S P A N K C w) (F i : Nat) (s : Sg) (hi : i < S) (ha : AG sm s) : ∃ s' : Sg, j_211_2 (F + 1) (i : Int) s = j_211_2 F ((i + 1 : Nat) : Int) s' ∧ FD s s' (bd5s T sm i) := by
  have ok := h.owk
  obtain ⟨hT, hX, hC, hD, hN, h19, h31, h34, h30, wz, tw, S8, P8, A8, N8⟩ := h
  have z8 := hT.1
  obtain ⟨p0, pc, g1, g2, g3, g4⟩ := ok.2.2.2.2.1 i hi
  obtain ⟨x, x1, x2, x3⟩ := ok.2.2.2.1 i hi
  -- pairs
  have inner : ∀ (k46 : Int → Int → Sg → Option Sg) (p : Nat) (y : Sg), p0 ≤ p → p < p0 + pc → AG sm y → ∃ s' : Sg, j_211_70 (j_211_2 F) k46 FU (i : Int) (p : Int) (p0 : Int) y = k46 (i : Int) ((p + 1 : Nat) : Int) s' ∧ FD y s' (∃ q, p0 ≤ q ∧ q < p ∧ dbl T sm p q) ∧ AG sm s' := by
    intro k46 p y hp0 hp hy
    obtain ⟨F', hF⟩ := FU_split (k := (p - p0) + 1) (by omega)
    have stepq : ∀ (G q : Nat) (z : Sg), p0 ≤ q → q < p → AG sm z → ∃ z' : Sg, j_211_70 (j_211_2 F) k46 (G + 1) (i : Int) (p : Int) (q : Int) z = j_211_70 (j_211_2 F) k46 G (i : Int) (p : Int) ((q + 1 : Nat) : Int) z' ∧ FD z z' (dbl T sm p q) := by
      intro G q z hq0 hq hz
      have k127 : ∀ x : Sg, j_211_127 (j_211_2 F) k46 (j_211_70 (j_211_2 F) k46 G) (i : Int) (p : Int) (q : Int) x = j_211_70 (j_211_2 F) k46 G (i : Int) (p : Int) ((q + 1 : Nat) : Int) x := fun x => by
        unfold j_211_127
        rw [w32_nat (by omega)]
      rw [j_211_70, if_neg (by omega), gd_pos (by omega), Int.toNat_natCast, Int.toNat_natCast, hz.1 104 (by decide)]
      by_cases c1 : sm 104 p < 0
      · rw [if_pos c1, k127]
        exact ⟨z, rfl, (FD.refl z).iff ⟨fun y => y.elim, fun y => absurd y.1 (by omega)⟩⟩
      · rw [if_neg c1, gd_pos (by omega)]
        by_cases c2 : sm 104 q < 0
        · rw [if_pos c2, k127]
          exact ⟨z, rfl, (FD.refl z).iff ⟨fun y => y.elim, fun y => absurd y.2.1 (by omega)⟩⟩
        · obtain ⟨xp, u1, u2, u3⟩ := g4 p hp0 hp (by omega)
          obtain ⟨xq, v1, v2, v3⟩ := g4 q hq0 (by omega) (by omega)
          rw [if_neg c2, gd_pos (by omega), gd_pos (by omega), u1, v1, m239 hT (hz.tx hX) u2 u3 v2 v3, Option.bind_some]
          unfold dbl
          rw [u1, v1, Int.toNat_natCast, Int.toNat_natCast]
          by_cases c3 : T.vl xp = T.vl xq
          · obtain ⟨i1, j1, w1, _⟩ := hX.nm u2 u3
            rw [p01_y c3, if_neg (by decide), gd_pos (by omega), gd_pos (by omega), hz.1 89 (by decide), w1, Option.bind_some, k127]
            exact ⟨_, rfl, (m235 (by omega)).iff ⟨fun _ => ⟨by omega, by omega, c3⟩, fun _ => trivial⟩⟩
          · rw [p01_n c3, if_pos rfl, k127]
            exact ⟨z, rfl, (FD.refl z).iff ⟨fun y => y.elim, fun y => c3 y.2.2⟩⟩
    have go : ∀ (r l G : Nat) (z : Sg), l + r = p → p0 ≤ l → AG sm z → ∃ z' : Sg, j_211_70 (j_211_2 F) k46 (G + r + 1) (i : Int) (p : Int) (l : Int) z = k46 (i : Int) ((p + 1 : Nat) : Int) z' ∧ FD z z' (∃ q, l ≤ q ∧ q < p ∧ dbl T sm p q) ∧ AG sm z' := by
      intro r
      induction r with
      | zero =>
        intro l G z hl hl0 hz
        rw [show l = p by omega]
        refine ⟨z, ?_, (FD.refl z).iff ⟨fun y => y.elim, fun ⟨q, y1, y2, _⟩ => by omega⟩, hz⟩
        rw [j_211_70, if_pos (by omega)]
        unfold j_211_133
        rw [w32_nat (by omega)]
      | succ r ih =>
        intro l G z hl hl0 hz
        obtain ⟨z1, e1, f1⟩ := stepq (G + r + 1) l z hl0 (by omega) hz
        obtain ⟨z2, e2, f2, a2⟩ := ih (l + 1) G z1 (by omega) (by omega) (hz.fd f1)
        refine ⟨z2, by rw [show G + (r + 1) + 1 = (G + r + 1) + 1 by omega, e1, e2], (f1.trans f2).iff ⟨fun y => ?_, fun ⟨q, y1, y2, y3⟩ => ?_⟩, a2⟩
        · rcases y with y | ⟨q, y1, y2, y3⟩
          · exact ⟨l, Nat.le_refl _, by omega, y⟩
          · exact ⟨q, by omega, y2, y3⟩
        · by_cases e : q = l
          · rw [e] at y3; exact Or.inl y3
          · exact Or.inr ⟨q, by omega, y2, y3⟩
    obtain ⟨z', e1, e2, e3⟩ := go (p - p0) p0 F' y (by omega) (Nat.le_refl _) hy
    rw [show F' + (p - p0) + 1 = FU by omega] at e1
    exact ⟨z', e1, e2, e3⟩
  have outer : ∀ (r l G : Nat) (z : Sg), l + r = p0 + pc → p0 ≤ l → AG sm z → ∃ z' : Sg, j_211_46 (j_211_2 F) (G + r + 1) (i : Int) (l : Int) z = j_211_2 F ((i + 1 : Nat) : Int) z' ∧ FD z z' (∃ p, l ≤ p ∧ p < p0 + pc ∧ ∃ q, p0 ≤ q ∧ q < p ∧ dbl T sm p q) := by
    intro r
    induction r with
    | zero =>
      intro l G z hl hl0 hz
      refine ⟨z, ?_, (FD.refl z).iff ⟨fun y => y.elim, fun ⟨q, y1, y2, _⟩ => by omega⟩⟩
      rw [j_211_46, gd_pos (by omega), gd_pos (by omega), Int.toNat_natCast, hz.1 98 (by decide), hz.1 99 (by decide), g1, g2, w32_add (by omega), if_pos (by omega)]
      unfold j_211_139
      rw [w32_nat (by omega)]
    | succ r ih =>
      intro l G z hl hl0 hz
      obtain ⟨z1, e1, f1, a1⟩ := inner (j_211_46 (j_211_2 F) (G + r + 1)) l z hl0 (by omega) hz
      obtain ⟨z2, e2, f2⟩ := ih (l + 1) G z1 (by omega) (by omega) a1
      refine ⟨z2, ?_, (f1.trans f2).iff ⟨fun y => ?_, fun ⟨q, y1, y2, y3⟩ => ?_⟩⟩
      · rw [show G + (r + 1) + 1 = (G + r + 1) + 1 by omega, j_211_46, gd_pos (by omega), gd_pos (by omega), Int.toNat_natCast, hz.1 98 (by decide), hz.1 99 (by decide), g1, g2, w32_add (by omega), if_neg (by omega), gd_pos (by omega), e1, e2]
      · rcases y with y | ⟨q, y1, y2, y3⟩
        · exact ⟨l, Nat.le_refl _, by omega, y⟩
        · exact ⟨q, by omega, y2, y3⟩
      · by_cases e : q = l
        · rw [e] at y3; exact Or.inl y3
        · exact Or.inr ⟨q, by omega, y2, y3⟩
  have s2 : ∀ y : Sg, AG sm y → ∃ s' : Sg, j_211_39 (j_211_2 F) (i : Int) y = j_211_2 F ((i + 1 : Nat) : Int) s' ∧ FD y s' (∃ p, p0 ≤ p ∧ p < p0 + pc ∧ ∃ q, p0 ≤ q ∧ q < p ∧ dbl T sm p q) := by
    intro y hy
    obtain ⟨F', hF⟩ := FU_split (k := pc + 1) (by omega)
    obtain ⟨z', e1, e2⟩ := outer pc p0 F' y (by omega) (Nat.le_refl _) hy
    rw [show F' + pc + 1 = FU by omega] at e1
    refine ⟨z', ?_, e2⟩
    unfold j_211_39
    rw [gd_pos (by omega), Int.toNat_natCast, hy.1 98 (by decide), g1, e1]
  obtain ⟨r, e1, e2⟩ := m238 hT (ha.tx hX) (ha.owk ok) x2 x3
  rw [ha.sof] at e2
  rw [j_211_2, ha.2 19 (by decide), h19, if_neg (by omega), gd_pos (by omega), Int.toNat_natCast, ha.1 95 (by decide), x1, e1, Option.bind_some]
  unfold bd5s
  rw [g1, g2, Int.toNat_natCast, Int.toNat_natCast, x1, Int.toNat_natCast]
  rcases e2 with ⟨e2, e3⟩ | ⟨f, e2, e3, e4, e5⟩
  · exact absurd (by rw [x1, Int.toNat_natCast]) (e3 i hi)
  · have fi : f ≤ i := by
      apply Decidable.byContradiction
      intro hn
      exact e5 i (by omega) (by rw [x1, Int.toNat_natCast])
    by_cases c : (i : Int) ≤ r
    · rw [if_pos c]
      obtain ⟨z', k1, k2⟩ := s2 s ha
      refine ⟨z', k1, k2.iff ⟨fun y => Or.inr y, fun y => ?_⟩⟩
      rcases y with ⟨j, y1, y2⟩ | y
      · exact absurd y2 (e5 j (by omega))
      · exact y
    · obtain ⟨i1, j1, w1, _⟩ := hX.nm x2 x3
      have fd : FD s (f_235 ((i1 : Nat) : Int) s) True := m235 (by omega)
      obtain ⟨z', k1, k2⟩ := s2 _ (ha.fd fd)
      rw [if_neg c, gd_pos (by omega), gd_pos (by omega), ha.1 89 (by decide), w1, Option.bind_some]
      exact ⟨z', k1, (fd.trans k2).iff ⟨fun _ => Or.inl ⟨f, by omega, e4⟩, fun _ => Or.inl trivial⟩⟩
theorem ck5a (h : CKX T sc sm n t S P A N K C w) (F i : Nat) (s : Sg) (hi : i < A) (ha : AG sm s) : ∃ s' : Sg, j_211_147 (F + 1) (i : Int) s = j_211_147 F ((i + 1 : Nat) : Int) s' ∧ FD s s' (bd5a T sm i) := by
  have ok := h.owk
  obtain ⟨hT, hX, hC, hD, hN, h19, h31, h34, h30, wz, tw, S8, P8, A8, N8⟩ := h
  have z8 := hT.1
  obtain ⟨si, b1, b2, b3, b4, b5⟩ := hD.act hi
  have k205 : ∀ x : Sg, j_211_205 (j_211_147 F) (i : Int) x = j_211_147 F ((i + 1 : Nat) : Int) x := fun x => by
    unfold j_211_205
    rw [w32_nat (by omega)]
  rw [j_211_147, ha.2 34 (by decide), h34, if_neg (by omega), gd_pos (by omega), Int.toNat_natCast, ha.1 106 (by decide)]
  unfold bd5a
  by_cases c : sm 106 i = 2
  · obtain ⟨x, x1, x2, x3⟩ := b5 (Or.inr c)
    rw [if_neg (fun e => e c), gd_pos (by omega), gd_pos (by omega), gd_pos (by omega), ha.1 112 (by decide), ha.1 113 (by decide), ha.1 107 (by decide), x1, b1, m240 hT (ha.tx hX) (ha.owk ok) x2 x3 b2 b3 (by rw [ha.1 106 (by decide)]; exact b4), Option.bind_some, Int.toNat_natCast, Int.toNat_natCast]
    by_cases d : OWN T sm si (sm 113 i) (T.vl x)
    · obtain ⟨i1, j1, w1, _⟩ := hX.nm x2 x3
      rw [p01_y (ha.own.mpr d), if_neg (by decide), gd_pos (by omega), gd_pos (by omega), ha.1 89 (by decide), w1, Option.bind_some, k205]
      exact ⟨_, rfl, (m235 (by omega)).iff ⟨fun _ => ⟨c, d⟩, fun _ => trivial⟩⟩
    · rw [p01_n (fun y => d (ha.own.mp y)), if_pos rfl, k205]
      exact ⟨s, rfl, (FD.refl s).iff ⟨fun y => y.elim, fun y => d y.2⟩⟩
  · rw [if_pos c, k205]
    exact ⟨s, rfl, (FD.refl s).iff ⟨fun y => y.elim, fun y => c y.1⟩⟩
def BD5 (T : TT) (sm : Sg) (S A : Nat) : Prop := (∃ i, i < S ∧ bd5s T sm i) ∨ (∃ i, i < A ∧ bd5a T sm i)
theorem ck5 (h : CKX T sc sm n t S P A N K C w) (h8 : sm 84 8 = -1) (h6 : sm 84 6 = 0) : ∃ s' : Sg, f_211 sm = some s' ∧ TLD sm s' 5 (BD5 T sm S A) := by
  obtain ⟨hT, hX, hC, hD, hN, h19, h31, h34, h30, wz, tw, S8, P8, A8, N8⟩ := id h
  obtain ⟨s2, e2, f2, a2⟩ := loop_fu (j := j_211_2) (tl := j_211_145) (s0 := sm) (M := S) (fun F i s x y => ck5s h F i s x y) (fun F s y => by rw [j_211_2, y.2 19 (by decide), h19, if_pos (by omega)]) (by omega) (AG.refl sm)
  obtain ⟨s3, e3, f3, a3⟩ := loop_fu (j := j_211_147) (tl := j_211_211) (s0 := sm) (M := A) (fun F i s x y => ck5a h F i s x y) (fun F s y => by rw [j_211_147, y.2 34 (by decide), h34, if_pos (by omega)]) (by omega) a2
  obtain ⟨s6, e6, t6⟩ := m237 (k := 5) (f2.trans f3) h8 h6
  refine ⟨s6, ?_, t6⟩
  unfold f_211
  rw [e2]
  show j_211_147 FU 0 s2 = _
  rw [e3]
  unfold j_211_211
  rw [e6, Option.bind_some]
end CK5
/-! THE REFERENCE's checks: unknown, meaning. -/
section CK6
variable {T : TT} {sc sm s s' : Sg} {n a b S P A N K C w i : Nat} {t : Nat → Int} {r v : Int}
theorem m241 (hi : i < 8200) : g_241 (i : Int) s ∧ f_241 (i : Int) s = p01 (1 ≤ s 116 i ∧ s 116 i ≤ 3) := by
  unfold g_241 f_241
  rw [Int.toNat_natCast]
  have g : 0 ≤ (i : Int) ∧ (i : Int) < 8200 := by omega
  refine ⟨⟨g, fun _ => trivial, fun _ => ⟨g, fun _ => trivial, fun _ => ⟨g, trivial⟩⟩⟩, ?_⟩
  by_cases c1 : s 116 i = 1
  · rw [if_pos c1, p01_y (by omega)]
  · by_cases c2 : s 116 i = 2
    · rw [if_neg c1, if_pos c2, p01_y (by omega)]
    · by_cases c3 : s 116 i = 3
      · rw [if_neg c1, if_neg c2, if_neg (fun e => e c3), p01_y (by omega)]
      · rw [if_neg c1, if_neg c2, if_pos c3, p01_n (by omega)]
theorem m242 (hi : i < 4100) : g_242 (i : Int) s ∧ f_242 (i : Int) s = p01 (s 94 i = 0 ∧ s 96 i < 0) := by
  unfold g_242 f_242
  rw [Int.toNat_natCast]
  have g : 0 ≤ (i : Int) ∧ (i : Int) < 4100 := by omega
  refine ⟨⟨g, fun _ => trivial, fun _ => ⟨g, trivial⟩⟩, ?_⟩
  by_cases c1 : s 94 i = 0
  · by_cases c2 : 0 ≤ s 96 i
    · rw [if_neg (fun e => e c1), if_pos c2, p01_n (by omega)]
    · rw [if_neg (fun e => e c1), if_neg c2, p01_y (by omega)]
  · rw [if_pos c1, p01_n (by omega)]
theorem m243 (hi : i < 4100) : g_243 (i : Int) s ∧ f_243 (i : Int) s = p01 (s 94 i = 1 ∨ s 94 i = 0 ∧ 0 ≤ s 96 i) := by
  unfold g_243 f_243
  rw [Int.toNat_natCast]
  have g : 0 ≤ (i : Int) ∧ (i : Int) < 4100 := by omega
  refine ⟨⟨g, fun _ => trivial, fun _ => ⟨g, fun _ => trivial, fun _ => ⟨g, trivial⟩⟩⟩, ?_⟩
  by_cases c0 : s 94 i = 1
  · rw [if_pos c0, p01_y (Or.inl c0)]
  · by_cases c1 : s 94 i = 0
    · by_cases c2 : s 96 i < 0
      · rw [if_neg c0, if_neg (fun e => e c1), if_pos c2, p01_n (by omega)]
      · rw [if_neg c0, if_neg (fun e => e c1), if_neg c2, p01_y (by omega)]
    · rw [if_neg c0, if_pos c1, p01_n (by omega)]
/-- a node with a name -/
theorem CKX.nod (h : CKX T sc sm n t S P A N K C w) (hi : i < N) : ∃ si : Nat, sm 123 i = (si : Int) ∧ si < S ∧ sm 124 i < (A : Int) ∧ (0 ≤ sm 124 i → sm 106 (sm 124 i).toNat = 2) ∧ (1 ≤ sm 116 i ∧ sm 116 i ≤ 3 → ∃ x : Nat, sm 118 i = (x : Int) ∧ sm 117 i = (x : Int) ∧ x < T.z ∧ T.tk x = 1) := by
  obtain ⟨hT, hX, hC, hD, hN, -⟩ := h
  obtain ⟨si, b1, b2, b3, b4, b5, -⟩ := hD.2.2.2.1 i hi
  obtain ⟨c, q, -, -, -, -, -, nr6, nr7, -, -, -, -, -, nv⟩ := hN.2.2.2 i hi
  refine ⟨si, b1, b2, b4, b5, fun y => ?_⟩
  obtain ⟨x, x1, x2, x3, x4, -⟩ := nv.2.2.2.1 y.1 y.2
  exact ⟨x, x1, x2, x3, x4⟩
/-- no statement has the name -/
def NOS (T : TT) (sm : Sg) (S : Nat) (v : Int) : Prop := ∀ i, i < S → T.vl (sm 95 i).toNat ≠ v
def bd6n (T : TT) (sm : Sg) (S k : Nat) : Prop := (1 ≤ sm 116 k ∧ sm 116 k ≤ 3) ∧ ¬ OWN T sm (sm 123 k).toNat (sm 124 k) (T.vl (sm 118 k).toNat) ∧ NOS T sm S (T.vl (sm 118 k).toNat)
def bd6a (T : TT) (sm : Sg) (S k : Nat) : Prop := sm 106 k = 0 ∧ ¬ OWN T sm (sm 112 k).toNat (sm 113 k) (T.vl (sm 107 k).toNat) ∧ NOS T sm S (T.vl (sm 107 k).toNat)
theorem ck6n (h : CKX T sc sm n t S P A N K C w) (F i : Nat) (s : Sg) (hi : i < N) (ha : AG sm s) : ∃ s' : Sg, j_212_2 (F + 1) (i : Int) s = j_212_2 F ((i + 1 : Nat) : Int) s' ∧ FD s s' (bd6n T sm S i) := by
  have ok := h.owk
  obtain ⟨si, b1, b2, b3, b4, b5⟩ := h.nod hi
  obtain ⟨hT, hX, hC, hD, hN, h19, h31, h34, h30, wz, tw, S8, P8, A8, N8⟩ := h
  have z8 := hT.1
  have k71 : ∀ x : Sg, j_212_71 (j_212_2 F) (i : Int) x = j_212_2 F ((i + 1 : Nat) : Int) x := fun x => by
    unfold j_212_71
    rw [w32_nat (by omega)]
  obtain ⟨g1, g2⟩ := m241 (s := s) (i := i) (by omega)
  rw [ha.1 116 (by decide)] at g2
  rw [j_212_2, ha.2 47 (by decide), hN.2.1, if_neg (by omega), gd_pos g1, g2]
  unfold bd6n
  by_cases c : 1 ≤ sm 116 i ∧ sm 116 i ≤ 3
  · obtain ⟨x, x1, x0, x2, x3⟩ := b5 c
    rw [p01_y c, if_neg (by decide), gd_pos (by omega), gd_pos (by omega), gd_pos (by omega), Int.toNat_natCast, ha.1 123 (by decide), ha.1 124 (by decide), ha.1 118 (by decide), x1, b1, m240 hT (ha.tx hX) (ha.owk ok) x2 x3 b2 b3 (by rw [ha.1 106 (by decide)]; exact b4), Option.bind_some, Int.toNat_natCast, Int.toNat_natCast]
    by_cases d : OWN T sm si (sm 124 i) (T.vl x)
    · rw [p01_y (ha.own.mpr d), if_pos (by decide), k71]
      exact ⟨s, rfl, (FD.refl s).iff ⟨fun y => y.elim, fun y => y.2.1 d⟩⟩
    · rw [p01_n (fun y => d (ha.own.mp y)), if_neg (by decide), gd_pos (by omega)]
      obtain ⟨r, e1, e2⟩ := m238 hT (ha.tx hX) (ha.owk ok) x2 x3
      rw [ha.sof] at e2
      rw [e1, Option.bind_some]
      rcases e2 with ⟨e2, e3⟩ | ⟨f, e2, e3, e4, e5⟩
      · obtain ⟨i1, j1, w1, _⟩ := hX.nm x2 x3
        rw [e2, if_neg (by decide), gd_pos (by omega), gd_pos (by omega), ha.1 89 (by decide), w1, Option.bind_some, k71]
        exact ⟨_, rfl, (m235 (by omega)).iff ⟨fun _ => ⟨c, d, e3⟩, fun _ => trivial⟩⟩
      · rw [e2, if_pos (by omega), k71]
        exact ⟨s, rfl, (FD.refl s).iff ⟨fun y => y.elim, fun y => y.2.2 f e3 e4⟩⟩
  · rw [p01_n c, if_pos rfl, k71]
    exact ⟨s, rfl, (FD.refl s).iff ⟨fun y => y.elim, fun y => c y.1⟩⟩
theorem ck6a (h : CKX T sc sm n t S P A N K C w) (F i : Nat) (s : Sg) (hi : i < A) (ha : AG sm s) : ∃ s' : Sg, j_212_79 (F + 1) (i : Int) s = j_212_79 F ((i + 1 : Nat) : Int) s' ∧ FD s s' (bd6a T sm S i) := by
  have ok := h.owk
  obtain ⟨hT, hX, hC, hD, hN, h19, h31, h34, h30, wz, tw, S8, P8, A8, N8⟩ := h
  have z8 := hT.1
  obtain ⟨si, b1, b2, b3, b4, b5⟩ := hD.act hi
  have k149 : ∀ x : Sg, j_212_149 (j_212_79 F) (i : Int) x = j_212_79 F ((i + 1 : Nat) : Int) x := fun x => by
    unfold j_212_149
    rw [w32_nat (by omega)]
  rw [j_212_79, ha.2 34 (by decide), h34, if_neg (by omega), gd_pos (by omega), Int.toNat_natCast, ha.1 106 (by decide)]
  unfold bd6a
  by_cases c : sm 106 i = 0
  · obtain ⟨x, x1, x2, x3⟩ := b5 (Or.inl c)
    rw [if_neg (fun e => e c), gd_pos (by omega), gd_pos (by omega), gd_pos (by omega), ha.1 112 (by decide), ha.1 113 (by decide), ha.1 107 (by decide), x1, b1, m240 hT (ha.tx hX) (ha.owk ok) x2 x3 b2 b3 (by rw [ha.1 106 (by decide)]; exact b4), Option.bind_some, Int.toNat_natCast, Int.toNat_natCast]
    by_cases d : OWN T sm si (sm 113 i) (T.vl x)
    · rw [p01_y (ha.own.mpr d), if_pos (by decide), k149]
      exact ⟨s, rfl, (FD.refl s).iff ⟨fun y => y.elim, fun y => y.2.1 d⟩⟩
    · rw [p01_n (fun y => d (ha.own.mp y)), if_neg (by decide), gd_pos (by omega)]
      obtain ⟨r, e1, e2⟩ := m238 hT (ha.tx hX) (ha.owk ok) x2 x3
      rw [ha.sof] at e2
      rw [e1, Option.bind_some]
      rcases e2 with ⟨e2, e3⟩ | ⟨f, e2, e3, e4, e5⟩
      · obtain ⟨i1, j1, w1, _⟩ := hX.nm x2 x3
        rw [e2, if_neg (by decide), gd_pos (by omega), gd_pos (by omega), ha.1 89 (by decide), w1, Option.bind_some, k149]
        exact ⟨_, rfl, (m235 (by omega)).iff ⟨fun _ => ⟨c, d, e3⟩, fun _ => trivial⟩⟩
      · rw [e2, if_pos (by omega), k149]
        exact ⟨s, rfl, (FD.refl s).iff ⟨fun y => y.elim, fun y => y.2.2 f e3 e4⟩⟩
  · rw [if_pos c, k149]
    exact ⟨s, rfl, (FD.refl s).iff ⟨fun y => y.elim, fun y => c y.1⟩⟩
def BD6 (T : TT) (sm : Sg) (S A N : Nat) : Prop := (∃ i, i < N ∧ bd6n T sm S i) ∨ (∃ i, i < A ∧ bd6a T sm S i)
theorem ck6 (h : CKX T sc sm n t S P A N K C w) (h8 : sm 84 8 = -1) (h6 : sm 84 6 = 0) : ∃ s' : Sg, f_212 sm = some s' ∧ TLD sm s' 6 (BD6 T sm S A N) := by
  obtain ⟨hT, hX, hC, hD, hN, h19, h31, h34, h30, wz, tw, S8, P8, A8, N8⟩ := id h
  obtain ⟨s2, e2, f2, a2⟩ := loop_fu (j := j_212_2) (tl := j_212_77) (s0 := sm) (M := N) (fun F i s x y => ck6n h F i s x y) (fun F s y => by rw [j_212_2, y.2 47 (by decide), hN.2.1, if_pos (by omega)]) (by omega) (AG.refl sm)
  obtain ⟨s3, e3, f3, a3⟩ := loop_fu (j := j_212_79) (tl := j_212_155) (s0 := sm) (M := A) (fun F i s x y => ck6a h F i s x y) (fun F s y => by rw [j_212_79, y.2 34 (by decide), h34, if_pos (by omega)]) (by omega) a2
  obtain ⟨s6, e6, t6⟩ := m237 (k := 6) (f2.trans f3) h8 h6
  refine ⟨s6, ?_, t6⟩
  unfold f_212
  rw [e2]
  show j_212_79 FU 0 s2 = _
  rw [e3]
  unfold j_212_155
  rw [e6, Option.bind_some]
/-- a statement fits a use -/
def FIT (sm : Sg) (k : Int) (i : Nat) (c : Int) : Prop := (k = 1 ∧ sm 94 i = 0 ∧ sm 96 i < 0) ∨ (k = 2 ∧ (sm 94 i = 1 ∨ sm 94 i = 0 ∧ 0 ≤ sm 96 i)) ∨ (k = 3 ∧ sm 94 i = 2 ∧ sm 99 i = c)
def SO1 (T : TT) (sm : Sg) (S : Nat) (v : Int) (i : Nat) : Prop := i < S ∧ T.vl (sm 95 i).toNat = v ∧ ∀ j, j < i → T.vl (sm 95 j).toNat ≠ v
def bd7n (T : TT) (sm : Sg) (S k : Nat) : Prop := (1 ≤ sm 116 k ∧ sm 116 k ≤ 3) ∧ ((OWN T sm (sm 123 k).toNat (sm 124 k) (T.vl (sm 118 k).toNat) ∧ sm 116 k ≠ 1) ∨ (¬ OWN T sm (sm 123 k).toNat (sm 124 k) (T.vl (sm 118 k).toNat) ∧ ∃ i, SO1 T sm S (T.vl (sm 118 k).toNat) i ∧ ¬ FIT sm (sm 116 k) i (sm 120 k)))
def bd7a (T : TT) (sm : Sg) (S k : Nat) : Prop := sm 106 k = 0 ∧ (OWN T sm (sm 112 k).toNat (sm 113 k) (T.vl (sm 107 k).toNat) ∨ (¬ OWN T sm (sm 112 k).toNat (sm 113 k) (T.vl (sm 107 k).toNat) ∧ ∃ i, SO1 T sm S (T.vl (sm 107 k).toNat) i ∧ ¬ FIT sm (if sm 109 k < 0 then 1 else 2) i 0))
theorem SO1.uniq (h : SO1 T sm S v i) (k : SO1 T sm S v a) : i = a := by
  obtain ⟨h1, h2, h3⟩ := h
  obtain ⟨k1, k2, k3⟩ := k
  apply Decidable.byContradiction
  intro hn
  by_cases c : i < a
  · exact k3 i c h2
  · exact h3 a (by omega) k2
theorem ck7n (h : CKX T sc sm n t S P A N K C w) (nb : ¬ BD6 T sm S A N) (F i : Nat) (s : Sg) (hi : i < N) (ha : AG sm s) : ∃ s' : Sg, j_213_2 (F + 1) (i : Int) s = j_213_2 F ((i + 1 : Nat) : Int) s' ∧ FD s s' (bd7n T sm S i) := by
  have ok := h.owk
  obtain ⟨si, b1, b2, b3, b4, b5⟩ := h.nod hi
  obtain ⟨hT, hX, hC, hD, hN, h19, h31, h34, h30, wz, tw, S8, P8, A8, N8⟩ := h
  have z8 := hT.1
  have k170 : ∀ x : Sg, j_213_170 (j_213_2 F) (i : Int) x = j_213_2 F ((i + 1 : Nat) : Int) x := fun x => by
    unfold j_213_170
    rw [w32_nat (by omega)]
  obtain ⟨g1, g2⟩ := m241 (s := s) (i := i) (by omega)
  rw [ha.1 116 (by decide)] at g2
  rw [j_213_2, ha.2 47 (by decide), hN.2.1, if_neg (by omega), gd_pos g1, g2]
  by_cases c : 1 ≤ sm 116 i ∧ sm 116 i ≤ 3
  · obtain ⟨x, x1, x0, x2, x3⟩ := b5 c
    have k148 : ∀ (p : Prop), ∃ s' : Sg, j_213_148 (j_213_2 F) (i : Int) (p01 p) s = j_213_2 F ((i + 1 : Nat) : Int) s' ∧ FD s s' (¬ p) := by
      intro p
      unfold j_213_148
      by_cases d : p
      · rw [p01_y d, if_pos (by decide), k170]
        exact ⟨s, rfl, (FD.refl s).iff ⟨fun y => y.elim, fun y => y d⟩⟩
      · obtain ⟨i1, j1, w1, _⟩ := hX.nm x2 x3
        rw [p01_n d, if_neg (by decide), gd_pos (by omega), Int.toNat_natCast, ha.1 118 (by decide), x1, gd_pos (by omega), Int.toNat_natCast, ha.1 89 (by decide), w1, Option.bind_some, k170]
        exact ⟨_, rfl, (m235 (by omega)).iff ⟨fun _ => d, fun _ => trivial⟩⟩
    rw [p01_y c, if_neg (by decide), gd_pos (by omega), gd_pos (by omega), gd_pos (by omega), Int.toNat_natCast, ha.1 123 (by decide), ha.1 124 (by decide), ha.1 118 (by decide), x1, b1, m240 hT (ha.tx hX) (ha.owk ok) x2 x3 b2 b3 (by rw [ha.1 106 (by decide)]; exact b4), Option.bind_some]
    have unf : bd7n T sm S i ↔ ((OWN T sm si (sm 124 i) (T.vl x) ∧ sm 116 i ≠ 1) ∨ (¬ OWN T sm si (sm 124 i) (T.vl x) ∧ ∃ j, SO1 T sm S (T.vl x) j ∧ ¬ FIT sm (sm 116 i) j (sm 120 i))) := by
      unfold bd7n
      rw [x1, b1, Int.toNat_natCast, Int.toNat_natCast]
      exact ⟨fun y => y.2, fun y => ⟨c, y⟩⟩
    by_cases d : OWN T sm si (sm 124 i) (T.vl x)
    · rw [p01_y (ha.own.mpr d), if_neg (by decide)]
      unfold j_213_59
      rw [if_neg (by decide), gd_pos (by omega), Int.toNat_natCast, ha.1 116 (by decide)]
      have e : (if ¬ (sm 116 i) = 1 then (0 : Int) else 1) = p01 (sm 116 i = 1) := by
        by_cases q : sm 116 i = 1
        · rw [if_neg (fun e => e q), p01_y q]
        · rw [if_pos q, p01_n q]
      rw [e]
      obtain ⟨s', q1, q2⟩ := k148 (sm 116 i = 1)
      refine ⟨s', q1, q2.iff ?_⟩
      rw [unf]
      exact ⟨fun y => Or.inl ⟨d, y⟩, fun y => by
        rcases y with y | y
        · exact y.2
        · exact absurd d y.1⟩
    · rw [p01_n (fun y => d (ha.own.mp y)), if_pos rfl, gd_pos (by omega)]
      obtain ⟨r, e1, e2⟩ := m238 hT (ha.tx hX) (ha.owk ok) x2 x3
      rw [ha.sof] at e2
      rw [e1, Option.bind_some]
      rcases e2 with ⟨e2, e3⟩ | ⟨f, e2, e3, e4, e5⟩
      · exfalso
        refine nb (Or.inl ⟨i, hi, c, ?_, ?_⟩)
        · rw [x1, b1, Int.toNat_natCast, Int.toNat_natCast]; exact d
        · rw [x1, Int.toNat_natCast]; exact e3
      · subst e2
        have so : SO1 T sm S (T.vl x) f := ⟨e3, e4, e5⟩
        have fin : ∀ (p : Prop), (p ↔ FIT sm (sm 116 i) f (sm 120 i)) → ∃ s' : Sg, j_213_148 (j_213_2 F) (i : Int) (p01 p) s = j_213_2 F ((i + 1 : Nat) : Int) s' ∧ FD s s' (bd7n T sm S i) := by
          intro p hp
          obtain ⟨s', q1, q2⟩ := k148 p
          refine ⟨s', q1, q2.iff ?_⟩
          rw [unf, hp]
          exact ⟨fun y => Or.inr ⟨d, f, so, y⟩, fun y => by
            rcases y with y | ⟨_, j, y1, y2⟩
            · exact absurd y.1 d
            · rw [so.uniq y1]; exact y2⟩
        unfold j_213_59
        rw [if_pos rfl, gd_pos (by omega), Int.toNat_natCast, ha.1 116 (by decide)]
        by_cases k1 : sm 116 i = 1
        · obtain ⟨u1, u2⟩ := m242 (s := s) (i := f) (by omega)
          rw [ha.1 94 (by decide), ha.1 96 (by decide)] at u2
          rw [if_neg (fun e => e k1), gd_pos u1, u2]
          refine fin _ ?_
          unfold FIT
          rw [k1]
          exact ⟨fun y => Or.inl ⟨rfl, y⟩, fun y => by
            rcases y with y | ⟨y, _⟩ | ⟨y, _⟩
            · exact y.2
            · exact absurd y (by decide)
            · exact absurd y (by decide)⟩
        · rw [if_pos k1, gd_pos (by omega)]
          by_cases k2 : sm 116 i = 2
          · obtain ⟨u1, u2⟩ := m243 (s := s) (i := f) (by omega)
            rw [ha.1 94 (by decide), ha.1 96 (by decide)] at u2
            rw [if_neg (fun e => e k2), gd_pos u1, u2]
            refine fin _ ?_
            unfold FIT
            rw [k2]
            exact ⟨fun y => Or.inr (Or.inl ⟨rfl, y⟩), fun y => by
              rcases y with ⟨y, _⟩ | y | ⟨y, _⟩
              · exact absurd y (by decide)
              · exact y.2
              · exact absurd y (by decide)⟩
          · have k3 : sm 116 i = 3 := by omega
            rw [if_pos k2, gd_pos (by omega), Int.toNat_natCast, ha.1 94 (by decide)]
            by_cases q2 : sm 94 f = 2
            · rw [if_neg (fun e => e q2), gd_pos (by omega), gd_pos (by omega), ha.1 99 (by decide), ha.1 120 (by decide)]
              have e : (if ¬ (sm 99 f) = sm 120 i then (0 : Int) else 1) = p01 (sm 99 f = sm 120 i) := by
                by_cases q : sm 99 f = sm 120 i
                · rw [if_neg (fun e => e q), p01_y q]
                · rw [if_pos q, p01_n q]
              rw [e]
              refine fin _ ?_
              unfold FIT
              rw [k3]
              exact ⟨fun y => Or.inr (Or.inr ⟨rfl, q2, y⟩), fun y => by
                rcases y with ⟨y, _⟩ | ⟨y, _⟩ | y
                · exact absurd y (by decide)
                · exact absurd y (by decide)
                · exact y.2.2⟩
            · rw [if_pos q2]
              unfold j_213_147
              have := fin False ⟨fun y => y.elim, fun y => by
                unfold FIT at y
                rw [k3] at y
                rcases y with ⟨y, _⟩ | ⟨y, _⟩ | y
                · exact absurd y (by decide)
                · exact absurd y (by decide)
                · exact q2 y.2.1⟩
              rw [p01_n (fun y => y)] at this
              exact this
  · rw [p01_n c, if_pos rfl, k170]
    exact ⟨s, rfl, (FD.refl s).iff ⟨fun y => y.elim, fun y => c y.1⟩⟩
theorem ck7a (h : CKX T sc sm n t S P A N K C w) (nb : ¬ BD6 T sm S A N) (F i : Nat) (s : Sg) (hi : i < A) (ha : AG sm s) : ∃ s' : Sg, j_213_178 (F + 1) (i : Int) s = j_213_178 F ((i + 1 : Nat) : Int) s' ∧ FD s s' (bd7a T sm S i) := by
  have ok := h.owk
  obtain ⟨hT, hX, hC, hD, hN, h19, h31, h34, h30, wz, tw, S8, P8, A8, N8⟩ := h
  have z8 := hT.1
  obtain ⟨si, b1, b2, b3, b4, b5⟩ := hD.act hi
  have k284 : ∀ x : Sg, j_213_284 (j_213_178 F) (i : Int) x = j_213_178 F ((i + 1 : Nat) : Int) x := fun x => by
    unfold j_213_284
    rw [w32_nat (by omega)]
  rw [j_213_178, ha.2 34 (by decide), h34, if_neg (by omega), gd_pos (by omega), Int.toNat_natCast, ha.1 106 (by decide)]
  by_cases c : sm 106 i = 0
  · obtain ⟨x, x1, x2, x3⟩ := b5 (Or.inl c)
    have k269 : ∃ s' : Sg, j_213_269 (j_213_178 F) (i : Int) s = j_213_178 F ((i + 1 : Nat) : Int) s' ∧ FD s s' True := by
      obtain ⟨i1, j1, w1, _⟩ := hX.nm x2 x3
      unfold j_213_269
      rw [gd_pos (by omega), Int.toNat_natCast, ha.1 107 (by decide), x1, gd_pos (by omega), Int.toNat_natCast, ha.1 89 (by decide), w1, Option.bind_some, k284]
      exact ⟨_, rfl, m235 (by omega)⟩
    have unf : bd7a T sm S i ↔ (OWN T sm si (sm 113 i) (T.vl x) ∨ (¬ OWN T sm si (sm 113 i) (T.vl x) ∧ ∃ j, SO1 T sm S (T.vl x) j ∧ ¬ FIT sm (if sm 109 i < 0 then 1 else 2) j 0)) := by
      unfold bd7a
      rw [x1, b1, Int.toNat_natCast, Int.toNat_natCast]
      exact ⟨fun y => y.2, fun y => ⟨c, y⟩⟩
    rw [if_neg (fun e => e c), gd_pos (by omega), gd_pos (by omega), gd_pos (by omega), ha.1 112 (by decide), ha.1 113 (by decide), ha.1 107 (by decide), x1, b1, m240 hT (ha.tx hX) (ha.owk ok) x2 x3 b2 b3 (by rw [ha.1 106 (by decide)]; exact b4), Option.bind_some]
    by_cases d : OWN T sm si (sm 113 i) (T.vl x)
    · rw [p01_y (ha.own.mpr d), if_neg (by decide)]
      unfold j_213_236
      rw [if_pos (by decide)]
      obtain ⟨s', q1, q2⟩ := k269
      refine ⟨s', q1, q2.iff ?_⟩
      rw [unf]
      exact ⟨fun _ => Or.inl d, fun _ => trivial⟩
    · rw [p01_n (fun y => d (ha.own.mp y)), if_pos rfl, gd_pos (by omega)]
      obtain ⟨r, e1, e2⟩ := m238 hT (ha.tx hX) (ha.owk ok) x2 x3
      rw [ha.sof] at e2
      rw [e1, Option.bind_some]
      rcases e2 with ⟨e2, e3⟩ | ⟨f, e2, e3, e4, e5⟩
      · exfalso
        refine nb (Or.inr ⟨i, hi, c, ?_, ?_⟩)
        · rw [x1, b1, Int.toNat_natCast, Int.toNat_natCast]; exact d
        · rw [x1, Int.toNat_natCast]; exact e3
      · subst e2
        have so : SO1 T sm S (T.vl x) f := ⟨e3, e4, e5⟩
        have fy : FIT sm (if sm 109 i < 0 then 1 else 2) f 0 → FD s s (bd7a T sm S i) := fun hf => (FD.refl s).iff (by
          rw [unf]
          exact ⟨fun y => y.elim, fun y => by
            rcases y with y | ⟨_, j, y1, y2⟩
            · exact d y
            · rw [so.uniq y1] at hf; exact y2 hf⟩)
        have fn : ¬ FIT sm (if sm 109 i < 0 then 1 else 2) f 0 → ∃ s' : Sg, j_213_269 (j_213_178 F) (i : Int) s = j_213_178 F ((i + 1 : Nat) : Int) s' ∧ FD s s' (bd7a T sm S i) := fun hf => by
          obtain ⟨s', q1, q2⟩ := k269
          refine ⟨s', q1, q2.iff ?_⟩
          rw [unf]
          exact ⟨fun _ => Or.inr ⟨d, f, so, hf⟩, fun _ => trivial⟩
        unfold j_213_236
        rw [if_neg (by decide), gd_pos (by omega), Int.toNat_natCast, ha.1 109 (by decide)]
        by_cases k1 : 0 ≤ sm 109 i
        · rw [if_neg (show ¬ sm 109 i < 0 by omega)] at fy fn
          obtain ⟨u1, u2⟩ := m243 (s := s) (i := f) (by omega)
          rw [ha.1 94 (by decide), ha.1 96 (by decide)] at u2
          rw [if_pos k1, gd_pos u1, u2]
          have fe : FIT sm 2 f 0 ↔ (sm 94 f = 1 ∨ sm 94 f = 0 ∧ 0 ≤ sm 96 f) := by
            unfold FIT
            exact ⟨fun y => by
              rcases y with ⟨y, _⟩ | y | ⟨y, _⟩
              · exact absurd y (by decide)
              · exact y.2
              · exact absurd y (by decide), fun y => Or.inr (Or.inl ⟨rfl, y⟩)⟩
          by_cases k2 : sm 94 f = 1 ∨ sm 94 f = 0 ∧ 0 ≤ sm 96 f
          · rw [p01_y k2, if_pos (by decide), k284]
            exact ⟨s, rfl, fy (fe.mpr k2)⟩
          · rw [p01_n k2, if_neg (by decide)]
            exact fn (fun y => k2 (fe.mp y))
        · rw [if_pos (show sm 109 i < 0 by omega)] at fy fn
          obtain ⟨u1, u2⟩ := m242 (s := s) (i := f) (by omega)
          rw [ha.1 94 (by decide), ha.1 96 (by decide)] at u2
          rw [if_neg k1, gd_pos u1, u2]
          have fe : FIT sm 1 f 0 ↔ (sm 94 f = 0 ∧ sm 96 f < 0) := by
            unfold FIT
            exact ⟨fun y => by
              rcases y with y | ⟨y, _⟩ | ⟨y, _⟩
              · exact y.2
              · exact absurd y (by decide)
              · exact absurd y (by decide), fun y => Or.inl ⟨rfl, y⟩⟩
          by_cases k2 : sm 94 f = 0 ∧ sm 96 f < 0
          · rw [p01_y k2, if_neg (by decide), k284]
            exact ⟨s, rfl, fy (fe.mpr k2)⟩
          · rw [p01_n k2, if_pos rfl]
            exact fn (fun y => k2 (fe.mp y))
  · rw [if_pos c, k284]
    exact ⟨s, rfl, (FD.refl s).iff ⟨fun y => y.elim, fun y => c y.1⟩⟩
def BD7 (T : TT) (sm : Sg) (S A N : Nat) : Prop := (∃ i, i < N ∧ bd7n T sm S i) ∨ (∃ i, i < A ∧ bd7a T sm S i)
theorem ck7 (h : CKX T sc sm n t S P A N K C w) (nb : ¬ BD6 T sm S A N) (h8 : sm 84 8 = -1) (h6 : sm 84 6 = 0) : ∃ s' : Sg, f_213 sm = some s' ∧ TLD sm s' 7 (BD7 T sm S A N) := by
  obtain ⟨hT, hX, hC, hD, hN, h19, h31, h34, h30, wz, tw, S8, P8, A8, N8⟩ := id h
  obtain ⟨s2, e2, f2, a2⟩ := loop_fu (j := j_213_2) (tl := j_213_176) (s0 := sm) (M := N) (fun F i s x y => ck7n h nb F i s x y) (fun F s y => by rw [j_213_2, y.2 47 (by decide), hN.2.1, if_pos (by omega)]) (by omega) (AG.refl sm)
  obtain ⟨s3, e3, f3, a3⟩ := loop_fu (j := j_213_178) (tl := j_213_290) (s0 := sm) (M := A) (fun F i s x y => ck7a h nb F i s x y) (fun F s y => by rw [j_213_178, y.2 34 (by decide), h34, if_pos (by omega)]) (by omega) a2
  obtain ⟨s6, e6, t6⟩ := m237 (k := 7) (f2.trans f3) h8 h6
  refine ⟨s6, ?_, t6⟩
  unfold f_213
  rw [e2]
  show j_213_178 FU 0 s2 = _
  rw [e3]
  unfold j_213_290
  rw [e6, Option.bind_some]
end CK6
/-! THE CLASS's check of the names. -/
/-- something is noted, if p -/
def NT (s s' : Sg) (p : Prop) : Prop := (∀ c, c ≠ 30 → s' c = s c) ∧ (∀ j, j < 4 ∨ 7 < j → s' 30 j = s 30 j) ∧ (CN s' ↔ CN s ∧ ¬ p)
def FTc (s : Sg) (k : Int) (i : Nat) (c : Int) : Prop := (k = 1 ∧ s 55 i = 0 ∧ s 58 i = 0) ∨ (k = 2 ∧ (s 55 i = 1 ∨ s 55 i = 0 ∧ s 58 i ≠ 0)) ∨ (k ≠ 1 ∧ k ≠ 2 ∧ s 55 i = 2 ∧ s 58 i = c)
section CNM
variable {T : TT} {sc sm s0 s s' s2 : Sg} {n a b S P A N K C w i x : Nat} {t : Nat → Int} {p q : Prop} {k c : Int}
theorem NT.refl (s : Sg) : NT s s False := ⟨fun _ _ => rfl, fun _ _ => rfl, ⟨fun y => ⟨y, fun z => z⟩, fun y => y.1⟩⟩
theorem NT.trans (h : NT s s' p) (k : NT s' s2 q) : NT s s2 (p ∨ q) := ⟨fun c x => (k.1 c x).trans (h.1 c x), fun j x => (k.2.1 j x).trans (h.2.1 j x), by
  rw [k.2.2, h.2.2, not_or, and_assoc]⟩
theorem NT.iff (h : NT s s' p) (k : p ↔ q) : NT s s' q := ⟨h.1, h.2.1, by rw [h.2.2, k]⟩
theorem loop_nt {j : Nat → Int → Sg → Option Sg} {tl : Sg → Option Sg} {bad : Nat → Prop} {M : Nat} (step : ∀ F i s, i < M → (∀ c, c ≠ 30 → s c = s0 c) → ∃ s' : Sg, j (F + 1) (i : Int) s = j F ((i + 1 : Nat) : Int) s' ∧ NT s s' (bad i)) (stop : ∀ F s, (∀ c, c ≠ 30 → s c = s0 c) → j (F + 1) (M : Int) s = tl s) :
    ∀ (r l F : Nat) (s : Sg), l + r = M → (∀ c, c ≠ 30 → s c = s0 c) → ∃ s' : Sg, j (F + r + 1) (l : Int) s = tl s' ∧ NT s s' (∃ i, l ≤ i ∧ i < M ∧ bad i) := by
  intro r
  induction r with
  | zero =>
    intro l F s hl ha
    rw [show l = M by omega]
    exact ⟨s, stop F s ha, (NT.refl s).iff ⟨fun y => y.elim, fun ⟨i, y, z, _⟩ => by omega⟩⟩
  | succ r ih =>
    intro l F s hl ha
    obtain ⟨s1, e1, f1⟩ := step (F + r + 1) l s (by omega) ha
    obtain ⟨s', e2, f2⟩ := ih (l + 1) F s1 (by omega) (fun c x => (f1.1 c x).trans (ha c x))
    refine ⟨s', by rw [show F + (r + 1) + 1 = (F + r + 1) + 1 by omega, e1, e2], (f1.trans f2).iff ⟨fun y => ?_, fun ⟨i, y, z, u⟩ => ?_⟩⟩
    · rcases y with y | ⟨i, y, z, u⟩
      · exact ⟨l, Nat.le_refl _, by omega, y⟩
      · exact ⟨i, by omega, z, u⟩
    · by_cases e : i = l
      · rw [e] at u; exact Or.inl u
      · exact Or.inr ⟨i, by omega, z, u⟩
theorem loop_nu {j : Nat → Int → Sg → Option Sg} {tl : Sg → Option Sg} {bad : Nat → Prop} {M : Nat} (step : ∀ F i s, i < M → (∀ c, c ≠ 30 → s c = s0 c) → ∃ s' : Sg, j (F + 1) (i : Int) s = j F ((i + 1 : Nat) : Int) s' ∧ NT s s' (bad i)) (stop : ∀ F s, (∀ c, c ≠ 30 → s c = s0 c) → j (F + 1) (M : Int) s = tl s) (hM : M ≤ 9000) (ha : ∀ c, c ≠ 30 → s c = s0 c) : ∃ s' : Sg, j FU 0 s = tl s' ∧ NT s s' (∃ i, i < M ∧ bad i) := by
  obtain ⟨F, hF⟩ := FU_split (k := M + 1) (by omega)
  obtain ⟨s', h1, h2⟩ := loop_nt step stop M 0 F s (by omega) ha
  rw [show F + M + 1 = FU by omega] at h1
  exact ⟨s', h1, h2.iff ⟨fun ⟨i, _, y, z⟩ => ⟨i, y, z⟩, fun ⟨i, y, z⟩ => ⟨i, Nat.zero_le _, y, z⟩⟩⟩
theorem c27 (hS : s 54 6 = (S : Int)) (hi : i < S) (hS8 : S ≤ 1171) : f_27 (i : Int) k c s = some (p01 (FTc s k i c)) := by
  have e1 : f_181 (i : Int) s = 1 := by unfold f_181; rw [hS, if_neg (by omega), if_neg (by omega)]
  have g : 0 ≤ (i : Int) ∧ (i : Int) < 1171 := by omega
  have g2 : g_182 (i : Int) s := by unfold g_182; exact ⟨fun _ => trivial, fun _ => ⟨g, trivial⟩⟩
  have g4 : g_184 (i : Int) s := by unfold g_184; exact ⟨fun _ => trivial, fun _ => ⟨g, trivial⟩⟩
  have f2 : f_182 (i : Int) s = s 55 i := by unfold f_182; rw [e1, if_neg (by decide), Int.toNat_natCast]
  have f4 : f_184 (i : Int) s = s 58 i := by unfold f_184; rw [e1, if_neg (by decide), Int.toNat_natCast]
  unfold f_27
  rw [gd_pos g2, gd_pos g4, f2, f4]
  by_cases k1 : k = 1
  · rw [if_pos k1]
    by_cases a1 : s 55 i = 0
    · rw [if_neg (fun e => e a1)]
      by_cases a2 : s 58 i = 0
      · rw [if_neg (fun e => e a2), p01_y (show FTc s k i c from Or.inl ⟨k1, a1, a2⟩)]
      · rw [if_pos a2, p01_n (show ¬ FTc s k i c from fun y => by
          rcases y with y | ⟨y, _⟩ | ⟨y, _⟩
          · exact a2 y.2.2
          · omega
          · exact y k1)]
    · rw [if_pos a1, p01_n (show ¬ FTc s k i c from fun y => by
        rcases y with y | ⟨y, _⟩ | ⟨y, _⟩
        · exact a1 y.2.1
        · omega
        · exact y k1)]
  · rw [if_neg k1]
    by_cases k2 : k = 2
    · rw [if_pos k2]
      by_cases a1 : s 55 i = 1
      · rw [if_pos a1, p01_y (show FTc s k i c from Or.inr (Or.inl ⟨k2, Or.inl a1⟩))]
      · rw [if_neg a1]
        by_cases a2 : s 55 i = 0
        · rw [if_neg (fun e => e a2)]
          by_cases a3 : s 58 i = 0
          · rw [if_pos a3, p01_n (show ¬ FTc s k i c from fun y => by
              rcases y with ⟨y, _⟩ | ⟨_, y | y⟩ | ⟨_, y, _⟩
              · exact k1 y
              · exact a1 y
              · exact y.2 a3
              · exact y k2)]
          · rw [if_neg a3, p01_y (show FTc s k i c from Or.inr (Or.inl ⟨k2, Or.inr ⟨a2, a3⟩⟩))]
        · rw [if_pos a2, p01_n (show ¬ FTc s k i c from fun y => by
            rcases y with ⟨y, _⟩ | ⟨_, y | y⟩ | ⟨_, y, _⟩
            · exact k1 y
            · exact a1 y
            · exact a2 y.1
            · exact y k2)]
    · rw [if_neg k2]
      by_cases a1 : s 55 i = 2
      · rw [if_neg (fun e => e a1)]
        by_cases a2 : s 58 i = c
        · rw [if_neg (fun e => e a2), p01_y (show FTc s k i c from Or.inr (Or.inr ⟨k1, k2, a1, a2⟩))]
        · rw [if_pos a2, p01_n (show ¬ FTc s k i c from fun y => by
            rcases y with ⟨y, _⟩ | ⟨y, _⟩ | y
            · exact k1 y
            · exact k2 y
            · exact a2 y.2.2.2)]
      · rw [if_pos a1, p01_n (show ¬ FTc s k i c from fun y => by
          rcases y with ⟨y, _⟩ | ⟨y, _⟩ | y
          · exact k1 y
          · exact k2 y
          · exact a1 y.2.2.1)]
/-- a name is asked for -/
def okN (T : TT) (s : Sg) (S x : Nat) (k c : Int) : Prop := ∃ i : Nat, i < S ∧ s 36 (T.vl x).toNat = (i : Int) ∧ FTc s k i c
theorem c21 (hT : TWF T) (hc : CC T s) (hS : s 54 6 = (S : Int)) (hS8 : S ≤ 1171) (ho : OWR T s sm S) (hx : x < T.z) (tx : T.tk x = 1) : ∃ s' : Sg, f_21 (x : Int) k c s = some s' ∧ NT s s' (¬ okN T s S x k c) := by
  obtain ⟨c1, c2⟩ := c97 hc hT (a := x) (by omega)
  rw [if_pos tx] at c1
  obtain ⟨d1, d2, -⟩ := c109 hT hc hx tx
  have v1 := hT.2.2.2.2.1 x hx
  have v2 := hT.2.2.2.2.2.1 x hx tx
  have e26 : f_26 (x : Int) s = s 36 (T.vl x).toNat := by unfold f_26; rw [c1, d2]
  have g26 : g_26 (x : Int) s := by unfold g_26; rw [c1]; exact ⟨c2, d1, trivial⟩
  obtain ⟨p1, p2⟩ := c80 (a := x) hc hT (by omega)
  have f0 := hT.2.2.2.1 x (by omega)
  unfold f_21
  rw [gd_pos g26, e26]
  rcases ho (T.vl x).toNat (IDN.at hT hx tx) with ⟨u1, u2⟩ | ⟨i, u1, u2, u3⟩
  · obtain ⟨w1, w2, w3, w4⟩ := c71 (s := s) (x := 6) (p := T.fm x) (by decide) f0
    rw [if_neg (fun e => e u1), gd_pos p2, p1, gd_pos w1, Option.bind_some]
    exact ⟨_, rfl, w3, w4, ⟨fun y => absurd y w2, fun y => absurd (fun ⟨i, z1, z2, z3⟩ => by omega) y.2⟩⟩
  · rw [if_pos (by omega), u2, c27 hS u1 hS8, Option.bind_some]
    by_cases d : FTc s k i c
    · rw [p01_y d, if_pos (by decide)]
      exact ⟨s, rfl, (NT.refl s).iff ⟨fun y => y.elim, fun y => y ⟨i, u1, u2, d⟩⟩⟩
    · obtain ⟨w1, w2, w3, w4⟩ := c71 (s := s) (x := 7) (p := T.fm x) (by decide) f0
      rw [p01_n d, if_neg (by decide), gd_pos p2, p1, gd_pos w1, Option.bind_some]
      refine ⟨_, rfl, w3, w4, ⟨fun y => absurd y w2, fun y => absurd (fun ⟨j, z1, z2, z3⟩ => ?_) y.2⟩⟩
      have : j = i := by omega
      rw [this] at z3
      exact d z3
def bcN (T : TT) (s : Sg) (S n : Nat) : Prop := (1 ≤ s 47 n ∧ s 47 n ≤ 3 ∧ s 48 n = 0) ∧ ¬ okN T s S (s 50 n).toNat (s 47 n) (s 53 n)
def bcC (T : TT) (s : Sg) (S c : Nat) : Prop := s 65 c = 0 ∧ ¬ okN T s S (s 62 c).toNat (if ¬ s 63 c = -1 then 2 else 1) 1
theorem c18 (h : CKX T sc sm n t S P A N K C w) (h54 : sc 54 6 = (S : Int)) (hS8 : S ≤ 1171) (h61 : sc 61 4 = (C : Int)) (hC8 : C ≤ 2049) : ∃ s' : Sg, f_18 sc = some s' ∧ NT sc s' ((∃ i, i < N ∧ bcN T sc S i) ∨ (∃ i, i < C ∧ bcC T sc S i)) := by
  have hnod := fun i (hi : i < N) => h.nod hi
  obtain ⟨hT, hX, hC, hD, hN, h19, h31, h34, h30, wz, tw, S8, P8, A8, N8⟩ := h
  have z8 := hT.1
  have cc : ∀ s : Sg, (∀ c, c ≠ 30 → s c = sc c) → CC T s := fun s y => hC.row (by rw [y 39 (by decide)]) (y 41 (by decide)) (y 42 (by decide)) (y 44 (by decide)) (by rw [y 31 (by decide)]) (y 1 (by decide))
  have ow : ∀ s : Sg, (∀ c, c ≠ 30 → s c = sc c) → OWR T s sm S := fun s y => by
    intro id hid
    rw [y 36 (by decide)]
    exact hD.2.2.2.2.2.1 id hid
  have okc : ∀ s : Sg, (∀ c, c ≠ 30 → s c = sc c) → ∀ x k c, okN T s S x k c ↔ okN T sc S x k c := fun s y x k c => by
    unfold okN FTc
    rw [y 36 (by decide), y 55 (by decide), y 58 (by decide)]
  have st1 : ∀ F i s, i < N → (∀ c, c ≠ 30 → s c = sc c) → ∃ s' : Sg, j_18_2 (F + 1) (i : Int) s = j_18_2 F ((i + 1 : Nat) : Int) s' ∧ NT s s' (bcN T sc S i) := by
    intro F i s hi y
    obtain ⟨si, b1, b2, b3, b4, b5⟩ := hnod i hi
    obtain ⟨cnt, q, n1, n2, n3, n4, n5, n6, n7, n8, n9, -⟩ := hN.2.2.2 i hi
    have r46 : s 46 7 = (N : Int) := by rw [y 46 (by decide)]; exact hN.1
    have e114 : f_114 (i : Int) s = 1 := by unfold f_114; rw [r46, if_neg (by omega), if_neg (by omega)]
    have g : 0 ≤ (i : Int) ∧ (i : Int) < 8192 := by omega
    have g116 : g_116 (i : Int) s := by unfold g_116; exact ⟨fun _ => trivial, fun _ => ⟨g, trivial⟩⟩
    have g117 : g_117 (i : Int) s := by unfold g_117; exact ⟨fun _ => trivial, fun _ => ⟨g, trivial⟩⟩
    have g118 : g_118 (i : Int) s := by unfold g_118; exact ⟨fun _ => trivial, fun _ => ⟨g, trivial⟩⟩
    have g122 : g_122 (i : Int) s := by unfold g_122; exact ⟨fun _ => trivial, fun _ => ⟨g, trivial⟩⟩
    have f116 : f_116 (i : Int) s = sc 47 i := by unfold f_116; rw [e114, if_neg (by decide), Int.toNat_natCast, y 47 (by decide)]
    have f117 : f_117 (i : Int) s = sc 48 i := by unfold f_117; rw [e114, if_neg (by decide), Int.toNat_natCast, y 48 (by decide)]
    have f118 : f_118 (i : Int) s = sc 53 i := by unfold f_118; rw [e114, if_neg (by decide), Int.toNat_natCast, y 53 (by decide)]
    have f122 : f_122 (i : Int) s = sc 50 i := by unfold f_122; rw [e114, if_neg (by decide), Int.toNat_natCast, y 50 (by decide)]
    have k64 : ∀ x : Sg, j_18_64 (j_18_2 F) (i : Int) x = j_18_2 F ((i + 1 : Nat) : Int) x := fun x => by
      unfold j_18_64
      rw [w32_nat (by omega)]
    rw [j_18_2, r46, if_neg (by omega), gd_pos g116, f116]
    unfold bcN
    by_cases c1 : sc 47 i < 1
    · rw [if_pos c1, k64]
      exact ⟨s, rfl, (NT.refl s).iff ⟨fun z => z.elim, fun z => by omega⟩⟩
    · by_cases c2 : 3 < sc 47 i
      · rw [if_neg c1, if_pos c2, k64]
        exact ⟨s, rfl, (NT.refl s).iff ⟨fun z => z.elim, fun z => by omega⟩⟩
      · rw [if_neg c1, if_neg c2, gd_pos g117, f117]
        by_cases c3 : sc 48 i = 0
        · obtain ⟨x, x1, x0, x2, x3⟩ := b5 (by omega)
          have e50 : sc 50 i = (x : Int) := by rw [n9, x0]
          obtain ⟨s', e1, e2⟩ := c21 (k := sc 47 i) (c := sc 53 i) hT (cc s y) (by rw [y 54 (by decide)]; exact h54) hS8 (ow s y) x2 x3
          rw [if_neg (fun e => e c3), gd_pos g122, gd_pos g118, f122, f118, e50, e1, Option.bind_some, k64, Int.toNat_natCast]
          refine ⟨s', rfl, e2.iff ?_⟩
          rw [okc s y]
          exact ⟨fun z => ⟨⟨by omega, by omega, c3⟩, z⟩, fun z => z.2⟩
        · rw [if_pos c3, k64]
          exact ⟨s, rfl, (NT.refl s).iff ⟨fun z => z.elim, fun z => c3 z.1.2.2⟩⟩
  have st2 : ∀ F i s, i < C → (∀ c, c ≠ 30 → s c = sc c) → ∃ s' : Sg, j_18_72 (F + 1) (i : Int) s = j_18_72 F ((i + 1 : Nat) : Int) s' ∧ NT s s' (bcC T sc S i) := by
    intro F i s hi y
    have r61 : s 61 4 = (C : Int) := by rw [y 61 (by decide)]; exact h61
    have e39 : f_39 (i : Int) s = 1 := by unfold f_39; rw [r61, if_neg (by omega), if_neg (by omega)]
    have g : 0 ≤ (i : Int) ∧ (i : Int) < 2049 := by omega
    have g34 : g_34 (i : Int) s := by unfold g_34; exact ⟨fun _ => trivial, fun _ => ⟨g, trivial⟩⟩
    have g35 : g_35 (i : Int) s := by unfold g_35; exact ⟨fun _ => trivial, fun _ => ⟨g, trivial⟩⟩
    have g36 : g_36 (i : Int) s := by unfold g_36; exact ⟨fun _ => trivial, fun _ => ⟨g, trivial⟩⟩
    have f34 : f_34 (i : Int) s = p01 (sc 65 i = 0) := by
      unfold f_34
      rw [e39, if_neg (by decide), Int.toNat_natCast, y 65 (by decide)]
      by_cases c : sc 65 i = 0
      · rw [if_neg (fun e => e c), p01_y c]
      · rw [if_pos c, p01_n c]
    have f35 : f_35 (i : Int) s = sc 62 i := by unfold f_35; rw [e39, if_neg (by decide), Int.toNat_natCast, y 62 (by decide)]
    have f36 : f_36 (i : Int) s = sc 63 i := by unfold f_36; rw [e39, if_neg (by decide), Int.toNat_natCast, y 63 (by decide)]
    have k124 : ∀ x : Sg, j_18_124 (j_18_72 F) (i : Int) x = j_18_72 F ((i + 1 : Nat) : Int) x := fun x => by
      unfold j_18_124
      rw [w32_nat (by omega)]
    rw [j_18_72, r61, if_neg (by omega), gd_pos g34, f34]
    unfold bcC
    by_cases c : sc 65 i = 0
    · have : ∃ x : Nat, sc 62 i = (x : Int) ∧ x < T.z ∧ T.tk x = 1 := by
        rcases hD.2.2.1.1 i hi with ⟨a, a1, a2, a3, _⟩ | ⟨a, _, _, _, _, _, a6⟩ | ⟨a, _, _, _, _, _, a6⟩
        · obtain ⟨si, _, _, _, _, b5⟩ := hD.act a1
          obtain ⟨x, x1, x2, x3⟩ := b5 (Or.inl a2)
          exact ⟨x, by rw [a3]; exact x1, x2, x3⟩
        · omega
        · rw [a6] at c
          exfalso
          split at c <;> omega
      obtain ⟨x, x1, x2, x3⟩ := this
      obtain ⟨s', e1, e2⟩ := c21 (k := (if ¬ sc 63 i = -1 then 2 else 1)) (c := 1) hT (cc s y) (by rw [y 54 (by decide)]; exact h54) hS8 (ow s y) x2 x3
      rw [p01_y c, if_neg (by decide), gd_pos g35, gd_pos g36, f35, f36, x1, e1, Option.bind_some, k124, Int.toNat_natCast]
      refine ⟨s', rfl, e2.iff ?_⟩
      rw [okc s y]
      exact ⟨fun z => ⟨c, z⟩, fun z => z.2⟩
    · rw [p01_n c, if_pos rfl, k124]
      exact ⟨s, rfl, (NT.refl s).iff ⟨fun z => z.elim, fun z => c z.1⟩⟩
  obtain ⟨s1, e1, f1⟩ := loop_nu (s0 := sc) (j := j_18_2) (tl := j_18_70) (M := N) st1 (fun F s y => by rw [j_18_2, y 46 (by decide), hN.1, if_pos (by omega)]) (by omega) (fun _ _ => rfl)
  obtain ⟨s2, e2, f2⟩ := loop_nu (s0 := sc) (j := j_18_72) (tl := fun s => some s) (M := C) st2 (fun F s y => by rw [j_18_72, y 61 (by decide), h61, if_pos (by omega)]) (by omega) f1.1
  refine ⟨s2, ?_, f1.trans f2⟩
  unfold f_18
  rw [e1]
  show j_18_72 FU 0 s1 = _
  rw [e2]
end CNM
/-! NAMES: both sides find the same. -/
section NMI
variable {T : TT} {sc sm : Sg} {n S P A N K C w i : Nat} {t : Nat → Int} {k c : Int}
theorem mn0 {v : Int} (h : 1 ≤ v) : mn v ≠ 0 := by unfold mn; split <;> omega
/-- fitting, on both sides -/
theorem ftc_fit (h : DAT T sc sm S P A N C w) (hi : i < S) (g : GST T sc sm i) (hk : k = 1 ∨ k = 2 ∨ k = 3) : FTc sc k i c ↔ FIT sm k i c := by
  obtain ⟨hd, p0, pc, n0, b1, b2, b3, b4, b5, b6, b7, b8, b9, b10, b11⟩ := h.1 i hi
  unfold FTc FIT
  rw [b5]
  have r0 : sm 94 i = 0 → (sc 58 i = 0 ↔ sm 96 i < 0) := fun e => by
    rcases b11 with ⟨_, _, _, u⟩ | ⟨u, -⟩ | ⟨u, -⟩ | ⟨u, -⟩
    · rcases u with ⟨u1, u2⟩ | ⟨x, u1, u2, u3, u4⟩
      · exact ⟨fun _ => by omega, fun _ => u2⟩
      · have := g.2.2.1 e (by omega)
        rw [u1, Int.toNat_natCast] at this
        have n0 : sc 58 i ≠ 0 := by rw [u4]; exact mn0 (by unfold pw2 at this; omega)
        exact ⟨fun y => absurd y n0, fun y => by omega⟩
    · omega
    · omega
    · omega
  have r2 : sm 94 i = 2 → sc 58 i = sm 99 i := fun e => by
    rcases b11 with ⟨u, -⟩ | ⟨u, -⟩ | ⟨_, u, -⟩ | ⟨u, -⟩
    · omega
    · omega
    · rw [u, b7]
    · omega
  constructor
  · intro y
    rcases y with ⟨y1, y2, y3⟩ | ⟨y1, y2⟩ | ⟨y1, y2, y3, y4⟩
    · exact Or.inl ⟨y1, y2, (r0 y2).mp y3⟩
    · refine Or.inr (Or.inl ⟨y1, ?_⟩)
      rcases y2 with y2 | ⟨y2, y3⟩
      · exact Or.inl y2
      · refine Or.inr ⟨y2, ?_⟩
        apply Decidable.byContradiction
        intro hn
        exact y3 ((r0 y2).mpr (by omega))
    · exact Or.inr (Or.inr ⟨by omega, y3, by rw [← r2 y3]; exact y4⟩)
  · intro y
    rcases y with ⟨y1, y2, y3⟩ | ⟨y1, y2⟩ | ⟨y1, y2, y3⟩
    · exact Or.inl ⟨y1, y2, (r0 y2).mpr y3⟩
    · refine Or.inr (Or.inl ⟨y1, ?_⟩)
      rcases y2 with y2 | ⟨y2, y3⟩
      · exact Or.inl y2
      · refine Or.inr ⟨y2, fun e => ?_⟩
        have := (r0 y2).mp e
        omega
    · exact Or.inr (Or.inr ⟨by omega, by omega, y2, by rw [r2 y2]; exact y3⟩)
/-- owners are the statements of the names -/
theorem okn_so (hT : TWF T) (h : DAT T sc sm S P A N C w) (gs : ∀ i, i < S → GST T sc sm i) {x : Nat} (hx : x < T.z) (tx : T.tk x = 1) (hk : k = 1 ∨ k = 2 ∨ k = 3) : okN T sc S x k c ↔ (¬ NOS T sm S (T.vl x) ∧ ∀ i, SO1 T sm S (T.vl x) i → FIT sm k i c) := by
  have v1 := hT.2.2.2.2.1 x hx
  have v2 := hT.2.2.2.2.2.1 x hx tx
  have vi : (((T.vl x).toNat : Nat) : Int) = T.vl x := by omega
  have uq : ∀ i j, i < S → j < S → T.vl (sm 95 i).toNat = T.vl (sm 95 j).toNat → i = j := fun i j hi hj e => by
    by_cases c1 : i < j
    · exact absurd e ((gs j hj).2.2.2.1 i c1)
    · by_cases c2 : j < i
      · exact absurd e.symm ((gs i hi).2.2.2.1 j c2)
      · omega
  rcases h.2.2.2.2.2.1 (T.vl x).toNat (IDN.at hT hx tx) with ⟨u1, u2⟩ | ⟨j, u1, u2, u3⟩
  · rw [vi] at u2
    exact ⟨fun ⟨i, y1, y2, y3⟩ => by omega, fun y => absurd u2 y.1⟩
  · rw [vi] at u3
    have so : SO1 T sm S (T.vl x) j := ⟨u1, u3, fun i hi e => by
      have := uq i j (by omega) u1 (by rw [e, u3])
      omega⟩
    constructor
    · intro ⟨i, y1, y2, y3⟩
      have e : i = j := by omega
      subst e
      exact ⟨fun z => z i u1 u3, fun l hl => by rw [← so.uniq hl]; exact (ftc_fit h u1 (gs i u1) hk).mp y3⟩
    · intro y
      exact ⟨j, u1, u2, (ftc_fit h u1 (gs j u1) hk).mpr (y.2 j so)⟩
/-- GOOD, in the reference's words -/
theorem good_bd (h : CKX T sc sm n t S P A N K C w) : GOOD T sc sm S A N w ↔ ¬ BD4 T sc sm S P A N w ∧ ¬ BD5 T sm S A ∧ (∀ a, a < A → sm 106 a = 0 → ¬ OWN T sm (sm 112 a).toNat (sm 113 a) (T.vl (sm 107 a).toNat)) ∧ (∀ n, n < N → sm 116 n = 2 ∨ sm 116 n = 3 → ¬ OWN T sm (sm 123 n).toNat (sm 124 n) (T.vl (sm 118 n).toNat)) := by
  obtain ⟨hT, hX, hC, hD, hN, h19, h31, h34, h30, wz, tw, S8, P8, A8, N8⟩ := h
  constructor
  · intro ⟨g1, g2, g3, g4⟩
    refine ⟨fun y => ?_, fun y => ?_, fun a ha k0 => (g3 a ha).2.2 k0, fun m hm k => (g4 m hm).2.2.2 k⟩
    · rcases y with y | ⟨i, hi, y⟩ | ⟨p, hp, y⟩ | ⟨a, ha, y⟩ | ⟨m, hm, y⟩
      · exact y g1
      · exact y ⟨(g2 i hi).1, (g2 i hi).2.1, (g2 i hi).2.2.1⟩
      · obtain ⟨i, hi, q1, q2⟩ := hD.2.2.2.2.2.2.2.1.1 p hp
        have := (g2 i hi).2.2.2.2 p q1 q2
        exact y ⟨this.1, this.2.1⟩
      · exact y ⟨fun k => ⟨((g3 a ha).1 k).1, ((g3 a ha).1 k).2.1⟩, (g3 a ha).2.1⟩
      · exact y ⟨(g4 m hm).1, (g4 m hm).2.1, (g4 m hm).2.2.1⟩
    · rcases y with ⟨i, hi, y⟩ | ⟨a, ha, y⟩
      · rcases y with ⟨j, hj, y⟩ | ⟨p, p1, p2, q, q1, q2, y1, y2, y3⟩
        · exact (g2 i hi).2.2.2.1 j hj y
        · exact ((g2 i hi).2.2.2.2 p p1 p2).2.2 q q1 q2 y1 y2 y3
      · exact ((g3 a ha).1 y.1).2.2 y.2
  · intro ⟨y4, y5, ya, yn⟩
    have hw : 1 ≤ T.vl w ∧ T.vl w ≤ 64 := Classical.byContradiction (fun z => y4 (Or.inl z))
    refine ⟨hw, fun i hi => ?_, fun a ha => ?_, fun m hm => ?_⟩
    · have s1 : ¬ bdS T sm i := fun z => y4 (Or.inr (Or.inl ⟨i, hi, z⟩))
      obtain ⟨z1, z2, z3⟩ := Classical.byContradiction s1
      refine ⟨z1, z2, z3, fun j hj e => y5 (Or.inl ⟨i, hi, Or.inl ⟨j, hj, e⟩⟩), fun p p1 p2 => ?_⟩
      obtain ⟨hd, p0, pc, n0, b1, b2, b3, b4, b5, b6, b7, b8, -⟩ := hD.1 i hi
      have hp : p < P := by
        rw [b6, b7, Int.toNat_natCast, Int.toNat_natCast] at p2
        omega
      have s2 : ¬ bdP T sc sm p := fun z => y4 (Or.inr (Or.inr (Or.inl ⟨p, hp, z⟩)))
      obtain ⟨u1, u2⟩ := Classical.byContradiction s2
      exact ⟨u1, u2, fun q q1 q2 k1 k2 e => y5 (Or.inl ⟨i, hi, Or.inr ⟨p, p1, p2, q, q1, q2, k1, k2, e⟩⟩)⟩
    · have s1 : ¬ bdA T sm a := fun z => y4 (Or.inr (Or.inr (Or.inr (Or.inl ⟨a, ha, z⟩))))
      obtain ⟨z1, z2⟩ := Classical.byContradiction s1
      exact ⟨fun k => ⟨(z1 k).1, (z1 k).2, fun e => y5 (Or.inr ⟨a, ha, k, e⟩)⟩, z2, ya a ha⟩
    · have s1 : ¬ bdN T sm m := fun z => y4 (Or.inr (Or.inr (Or.inr (Or.inr ⟨m, hm, z⟩))))
      obtain ⟨z1, z2, z3⟩ := Classical.byContradiction s1
      exact ⟨z1, z2, z3, yn m hm⟩
theorem nm_iff (h : CKX T sc sm n t S P A N K C w) : (CN sc ∧ ¬ ((∃ i, i < N ∧ bcN T sc S i) ∨ (∃ i, i < C ∧ bcC T sc S i))) ↔ ¬ (BD4 T sc sm S P A N w ∨ BD5 T sm S A ∨ BD6 T sm S A N ∨ BD7 T sm S A N) := by
  have gb := good_bd h
  have hnod := fun i (hi : i < N) => h.nod hi
  obtain ⟨hT, hX, hC, hD, hN, h19, h31, h34, h30, wz, tw, S8, P8, A8, N8⟩ := h
  obtain ⟨d1, d2, d3, d4, d5, d6, d7, -⟩ := id hD
  have kind : ∀ i, i < N → sc 47 i = sm 116 i ∧ sc 50 i = sm 117 i ∧ sc 53 i = sm 120 i := fun i hi => by
    obtain ⟨cnt, q, n1, n2, n3, n4, n5, n6, n7, n8, n9, -⟩ := hN.2.2.2 i hi
    exact ⟨n5, n9, by rw [n4, n1]⟩
  constructor
  · intro ⟨cn, nb⟩ bad
    have G := d7.mp cn
    obtain ⟨g4, g5, ga, gn⟩ := gb.mp G
    have gs := G.2.1
    rcases bad with b | b | b | b
    · exact g4 b
    · exact g5 b
    · rcases b with ⟨i, hi, c1, c2, c3⟩ | ⟨a, ha, c1, c2, c3⟩
      · obtain ⟨x, x1, x0, x2, x3⟩ := (hnod i hi).choose_spec.2.2.2.2 c1
        obtain ⟨k1, k2, k3⟩ := kind i hi
        have ev := (d5 cn i hi c1.1 c1.2).1
        have z48 : sc 48 i = 0 := by
          apply Decidable.byContradiction
          intro hn
          exact c2 (ev.mp hn)
        have ok : okN T sc S x (sc 47 i) (sc 53 i) := Classical.byContradiction (fun z => nb (Or.inl ⟨i, hi, ⟨by omega, by omega, z48⟩, by rw [k2, x0, Int.toNat_natCast]; exact z⟩))
        rw [x1, Int.toNat_natCast] at c3
        exact ((okn_so hT hD gs x2 x3 (by omega)).mp ok).1 c3
      · obtain ⟨si, _, _, _, _, b5⟩ := hD.act ha
        obtain ⟨x, x1, x2, x3⟩ := b5 (Or.inl c1)
        obtain ⟨c, e1, e2, e3, e4, e5⟩ := d3.2.1 cn a ha c1
        have ok : okN T sc S x (if ¬ sc 63 c = -1 then 2 else 1) 1 := Classical.byContradiction (fun z => nb (Or.inr ⟨c, e1, e5, by rw [e2, x1, Int.toNat_natCast]; exact z⟩))
        rw [x1, Int.toNat_natCast] at c3
        exact ((okn_so hT hD gs x2 x3 (by split <;> omega)).mp ok).1 c3
    · rcases b with ⟨i, hi, c1, c2⟩ | ⟨a, ha, c1, c2⟩
      · obtain ⟨x, x1, x0, x2, x3⟩ := (hnod i hi).choose_spec.2.2.2.2 c1
        obtain ⟨k1, k2, k3⟩ := kind i hi
        rcases c2 with ⟨c2, c3⟩ | ⟨c2, j, c3, c4⟩
        · exact gn i hi (by omega) c2
        · have ev := (d5 cn i hi c1.1 c1.2).1
          have z48 : sc 48 i = 0 := by
            apply Decidable.byContradiction
            intro hn
            exact c2 (ev.mp hn)
          have ok : okN T sc S x (sc 47 i) (sc 53 i) := Classical.byContradiction (fun z => nb (Or.inl ⟨i, hi, ⟨by omega, by omega, z48⟩, by rw [k2, x0, Int.toNat_natCast]; exact z⟩))
          rw [x1, Int.toNat_natCast] at c3
          have := ((okn_so hT hD gs x2 x3 (by omega)).mp ok).2 j c3
          rw [k1, k3] at this
          exact c4 this
      · rcases c2 with c2 | ⟨c2, j, c3, c4⟩
        · exact ga a ha c1 c2
        · obtain ⟨si, _, _, _, _, b5⟩ := hD.act ha
          obtain ⟨x, x1, x2, x3⟩ := b5 (Or.inl c1)
          obtain ⟨c, e1, e2, e3, e4, e5⟩ := d3.2.1 cn a ha c1
          have ok : okN T sc S x (if ¬ sc 63 c = -1 then 2 else 1) 1 := Classical.byContradiction (fun z => nb (Or.inr ⟨c, e1, e5, by rw [e2, x1, Int.toNat_natCast]; exact z⟩))
          rw [x1, Int.toNat_natCast] at c3
          have q := ((okn_so hT hD gs x2 x3 (by split <;> omega)).mp ok).2 j c3
          apply c4
          obtain ⟨sa, _, _, _, _, _, _, b7⟩ := d2 a ha
          have h109 : sm 109 a = -1 ∨ 0 ≤ sm 109 a := by
            rcases b7 with ⟨_, _, u, _⟩ | ⟨u, -⟩ | ⟨u, -⟩ | ⟨u, -⟩
            · rcases u with u | ⟨m, u, _⟩
              · exact Or.inl u
              · exact Or.inr (by omega)
            · omega
            · omega
            · omega
          rw [e3] at q
          rcases h109 with e | e
          · rw [if_neg (by omega)] at q
            rw [if_pos (by omega)]
            unfold FIT at *
            rcases q with q | ⟨q, _⟩ | ⟨q, _⟩
            · exact Or.inl q
            · exact absurd q (by decide)
            · exact absurd q (by decide)
          · rw [if_pos (by omega)] at q
            rw [if_neg (by omega)]
            unfold FIT at *
            rcases q with ⟨q, _⟩ | q | ⟨q, _⟩
            · exact absurd q (by decide)
            · exact Or.inr (Or.inl q)
            · exact absurd q (by decide)
  · intro nb
    have n4 : ¬ BD4 T sc sm S P A N w := fun z => nb (Or.inl z)
    have n5 : ¬ BD5 T sm S A := fun z => nb (Or.inr (Or.inl z))
    have n6 : ¬ BD6 T sm S A N := fun z => nb (Or.inr (Or.inr (Or.inl z)))
    have n7 : ¬ BD7 T sm S A N := fun z => nb (Or.inr (Or.inr (Or.inr z)))
    have G : GOOD T sc sm S A N w := gb.mpr ⟨n4, n5, fun a ha k0 e => n7 (Or.inr ⟨a, ha, k0, Or.inl e⟩), fun i hi k e => n7 (Or.inl ⟨i, hi, by omega, Or.inl ⟨e, by omega⟩⟩)⟩
    have cn := d7.mpr G
    have gs := G.2.1
    refine ⟨cn, fun bad => ?_⟩
    rcases bad with ⟨i, hi, ⟨c1, c2, c3⟩, c4⟩ | ⟨c, hc, c1, c2⟩
    · obtain ⟨k1, k2, k3⟩ := kind i hi
      obtain ⟨x, x1, x0, x2, x3⟩ := (hnod i hi).choose_spec.2.2.2.2 (by omega)
      have ev := (d5 cn i hi (by omega) (by omega)).1
      have no : ¬ OWN T sm (sm 123 i).toNat (sm 124 i) (T.vl (sm 118 i).toNat) := fun z => ev.mpr z c3
      apply c4
      rw [k2, x0, Int.toNat_natCast]
      refine (okn_so hT hD gs x2 x3 (by omega)).mpr ⟨fun z => n6 (Or.inl ⟨i, hi, by omega, no, by rw [x1, Int.toNat_natCast]; exact z⟩), fun j hj => ?_⟩
      rw [k1, k3]
      exact Classical.byContradiction (fun z => n7 (Or.inl ⟨i, hi, by omega, Or.inr ⟨no, j, by rw [x1, Int.toNat_natCast]; exact hj, z⟩⟩))
    · rcases d3.1 c hc with ⟨a, ha, a2, a3, a4, a5, a6⟩ | ⟨a, _, _, _, _, _, a6⟩ | ⟨a, _, _, _, _, _, a6⟩
      · obtain ⟨si, _, _, _, _, b5⟩ := hD.act ha
        obtain ⟨x, x1, x2, x3⟩ := b5 (Or.inl a2)
        have no := (G.2.2.1 a ha).2.2 a2
        apply c2
        rw [a3, x1, Int.toNat_natCast, a4]
        refine (okn_so hT hD gs x2 x3 (by split <;> omega)).mpr ⟨fun z => n6 (Or.inr ⟨a, ha, a2, no, by rw [x1, Int.toNat_natCast]; exact z⟩), fun j hj => ?_⟩
        have q : FIT sm (if sm 109 a < 0 then 1 else 2) j 0 := Classical.byContradiction (fun z => n7 (Or.inr ⟨a, ha, a2, Or.inr ⟨no, j, by rw [x1, Int.toNat_natCast]; exact hj, z⟩⟩))
        obtain ⟨sa, _, _, _, _, _, _, b7⟩ := d2 a ha
        have h109 : sm 109 a = -1 ∨ 0 ≤ sm 109 a := by
          rcases b7 with ⟨_, _, u, _⟩ | ⟨u, -⟩ | ⟨u, -⟩ | ⟨u, -⟩
          · rcases u with u | ⟨m, u, _⟩
            · exact Or.inl u
            · exact Or.inr (by omega)
          · omega
          · omega
          · omega
        rcases h109 with e | e
        · rw [if_pos (by omega)] at q
          rw [if_neg (by omega)]
          unfold FIT at *
          rcases q with q | ⟨q, _⟩ | ⟨q, _⟩
          · exact Or.inl q
          · exact absurd q (by decide)
          · exact absurd q (by decide)
        · rw [if_neg (by omega)] at q
          rw [if_pos (by omega)]
          unfold FIT at *
          rcases q with ⟨q, _⟩ | q | ⟨q, _⟩
          · exact absurd q (by decide)
          · exact Or.inr (Or.inl q)
          · exact absurd q (by decide)
      · omega
      · rw [a6] at c1
        exfalso
        split at c1 <;> omega
end NMI
/-! BITS, on both sides; what is found. -/
/-- a fault of number k is noted, if p -/
def NTk (k : Nat) (s s' : Sg) (p : Prop) : Prop := (∀ c, c ≠ 30 → s' c = s c) ∧ (∀ j, j ≠ k → s' 30 j = s 30 j) ∧ (s' 30 k ≠ -1 ↔ s 30 k ≠ -1 ∨ p)
section BIT
variable {T : TT} {sc sm s0 s s' s2 : Sg} {n a b S P A N K C w i k : Nat} {t : Nat → Int} {p q : Prop}
theorem NTk.refl (s : Sg) : NTk k s s False := ⟨fun _ _ => rfl, fun _ _ => rfl, ⟨fun y => Or.inl y, fun y => by rcases y with y | y; exact y; exact y.elim⟩⟩
theorem NTk.trans (h : NTk k s s' p) (l : NTk k s' s2 q) : NTk k s s2 (p ∨ q) := ⟨fun c x => (l.1 c x).trans (h.1 c x), fun j x => (l.2.1 j x).trans (h.2.1 j x), by rw [l.2.2, h.2.2, or_assoc]⟩
theorem NTk.iff (h : NTk k s s' p) (l : p ↔ q) : NTk k s s' q := ⟨h.1, h.2.1, by rw [h.2.2, l]⟩
theorem c71k {x : Int} (hk : 1 ≤ k) (hk2 : k ≤ 10) (hx : 0 ≤ x) : g_71 (k : Int) x s ∧ NTk k s (f_71 (k : Int) x s) True := by
  refine ⟨?_, fun c hc => ?_, fun j hj => ?_, ⟨fun _ => Or.inr trivial, fun _ => ?_⟩⟩
  · unfold g_71
    exact ⟨fun _ => trivial, fun _ => ⟨fun _ => ⟨by omega, fun _ => ⟨by omega, trivial⟩, fun _ => ⟨by omega, fun _ => trivial, fun _ => ⟨by omega, trivial⟩⟩⟩, fun _ => trivial⟩⟩
  · unfold f_71
    rw [if_neg (by omega), if_pos (by omega), Int.toNat_natCast]
    split
    · exact u2_row _ _ _ hc
    · split
      · rfl
      · exact u2_row _ _ _ hc
  · unfold f_71
    rw [if_neg (by omega), if_pos (by omega), Int.toNat_natCast]
    split
    · exact u2_col _ _ _ hj
    · split
      · rfl
      · exact u2_col _ _ _ hj
  · unfold f_71
    rw [if_neg (by omega), if_pos (by omega), Int.toNat_natCast]
    split
    · rw [u2_same]; omega
    · split
      · assumption
      · rw [u2_same]; omega
/-- what is found -/
theorem c68 (s : Sg) : ∃ r : Int, f_68 s = some r ∧ 0 ≤ r ∧ r ≤ 10 ∧ (r = 0 ↔ ∀ j : Nat, 1 ≤ j → j ≤ 10 → s 30 j = -1) ∧ (1 ≤ r → s 30 r.toNat ≠ -1 ∧ ∀ j : Nat, 1 ≤ j → (j : Int) < r → s 30 j = -1) := by
  have go : ∀ (q l F : Nat), l + q = 11 → 1 ≤ l → (∀ j : Nat, 1 ≤ j → j < l → s 30 j = -1) → ∃ r : Int, j_68_2 (F + q + 1) (l : Int) s = some r ∧ 0 ≤ r ∧ r ≤ 10 ∧ (r = 0 ↔ ∀ j : Nat, 1 ≤ j → j ≤ 10 → s 30 j = -1) ∧ (1 ≤ r → s 30 r.toNat ≠ -1 ∧ ∀ j : Nat, 1 ≤ j → (j : Int) < r → s 30 j = -1) := by
    intro q
    induction q with
    | zero =>
      intro l F hl h1 h
      exact ⟨0, by rw [j_68_2, if_pos (by omega)], by omega, by omega, ⟨fun _ j x y => h j x (by omega), fun _ => rfl⟩, fun y => absurd y (by decide)⟩
    | succ q ih =>
      intro l F hl h1 h
      rw [show F + (q + 1) + 1 = (F + q + 1) + 1 by omega, j_68_2, if_neg (by omega), gd_pos (by omega), Int.toNat_natCast]
      by_cases c : s 30 l = -1
      · rw [if_pos c, w32_nat (by omega)]
        exact ih (l + 1) F (by omega) (by omega) (fun j x y => by
          by_cases e : j = l
          · rw [e]; exact c
          · exact h j x (by omega))
      · rw [if_neg c]
        exact ⟨(l : Int), rfl, by omega, by omega, ⟨fun y => by omega, fun y => absurd (y l h1 (by omega)) c⟩, fun _ => ⟨by rw [Int.toNat_natCast]; exact c, fun j x y => h j x (by omega)⟩⟩
  obtain ⟨F, hF⟩ := FU_split (k := 11) (by omega)
  obtain ⟨r, h⟩ := go 10 1 F (by omega) (by omega) (fun j x y => absurd y (by omega))
  rw [show F + 10 + 1 = FU by omega] at h
  exact ⟨r, h⟩
theorem loop_k {j : Nat → Int → Sg → Option Sg} {tl : Sg → Option Sg} {bad : Nat → Prop} {M : Nat} (step : ∀ F i s, i < M → (∀ c, c ≠ 30 → s c = s0 c) → ∃ s' : Sg, j (F + 1) (i : Int) s = j F ((i + 1 : Nat) : Int) s' ∧ NTk k s s' (bad i)) (stop : ∀ F s, (∀ c, c ≠ 30 → s c = s0 c) → j (F + 1) (M : Int) s = tl s) (hM : M ≤ 9000) (ha : ∀ c, c ≠ 30 → s c = s0 c) : ∃ s' : Sg, j FU 0 s = tl s' ∧ NTk k s s' (∃ i, i < M ∧ bad i) := by
  have go : ∀ (r l F : Nat) (s : Sg), l + r = M → (∀ c, c ≠ 30 → s c = s0 c) → ∃ s' : Sg, j (F + r + 1) (l : Int) s = tl s' ∧ NTk k s s' (∃ i, l ≤ i ∧ i < M ∧ bad i) := by
    intro r
    induction r with
    | zero =>
      intro l F s hl ha
      rw [show l = M by omega]
      exact ⟨s, stop F s ha, (NTk.refl s).iff ⟨fun y => y.elim, fun ⟨i, y, z, _⟩ => by omega⟩⟩
    | succ r ih =>
      intro l F s hl ha
      obtain ⟨s1, e1, f1⟩ := step (F + r + 1) l s (by omega) ha
      obtain ⟨s', e2, f2⟩ := ih (l + 1) F s1 (by omega) (fun c x => (f1.1 c x).trans (ha c x))
      refine ⟨s', by rw [show F + (r + 1) + 1 = (F + r + 1) + 1 by omega, e1, e2], (f1.trans f2).iff ⟨fun y => ?_, fun ⟨i, y, z, u⟩ => ?_⟩⟩
      · rcases y with y | ⟨i, y, z, u⟩
        · exact ⟨l, Nat.le_refl _, by omega, y⟩
        · exact ⟨i, by omega, z, u⟩
      · by_cases e : i = l
        · rw [e] at u; exact Or.inl u
        · exact Or.inr ⟨i, by omega, z, u⟩
  obtain ⟨F, hF⟩ := FU_split (k := M + 1) (by omega)
  obtain ⟨s', h1, h2⟩ := go M 0 F s (by omega) ha
  rw [show F + M + 1 = FU by omega] at h1
  exact ⟨s', h1, h2.iff ⟨fun ⟨i, _, y, z⟩ => ⟨i, y, z⟩, fun ⟨i, y, z⟩ => ⟨i, Nat.zero_le _, y, z⟩⟩⟩
def bdB (T : TT) (sc sm : Sg) (w i : Nat) : Prop := sm 94 i = 3 ∧ sc 57 i ≠ T.vl w
/-- a part's bits, and their sum -/
theorem m219 (h : CKX T sc sm n t S P A N K C w) (g : GOOD T sc sm S A N w) (hi : i < S) {q : Nat} (h1 : (sm 98 i).toNat ≤ q) (h2 : q < (sm 98 i).toNat + (sm 99 i).toNat) (ha : AG sm s) : f_219 (q : Int) s = some (if sm 104 q < 0 then sc 43 (sm 105 q).toNat else mn (T.vl (sm 105 q).toNat)) := by
  obtain ⟨hT, hX, hC, hD, hN, h19, h31, h34, h30, wz, tw, S8, P8, A8, N8⟩ := h
  have z8 := hT.1
  obtain ⟨hd, p0, pc, n0, b1, b2, b3, b4, b5, b6, b7, b8, -⟩ := hD.1 i hi
  have gp := (g.2.1 i hi).2.2.2.2 q h1 h2
  rw [b6, b7, Int.toNat_natCast, Int.toNat_natCast] at h2
  obtain ⟨x, g1, g2, g3, g4⟩ := hD.prt (p := q) (by omega)
  unfold f_219
  rw [gd_pos (by omega), Int.toNat_natCast, ha.1 104 (by decide), ha.1 105 (by decide), g1, Int.toNat_natCast]
  by_cases c : sm 104 q < 0
  · obtain ⟨i1, j1, e1, e2, e3, e4, e5, e6, -⟩ := hX.nu g2 g3
    have n8 := hX.2.1.2.1
    rw [if_pos c, if_pos c, gd_pos (by omega), gd_pos (by omega), gd_pos (by omega), gd_pos (by omega), ha.1 90 (by decide), ha.1 89 (by decide), e3, e4, w32_sub (by omega) (by omega), e2]
  · have gv := gp.1 (by omega)
    rw [g1, Int.toNat_natCast] at gv
    rw [if_neg c, if_neg c, gd_pos (by omega), m218 hT (ha.tx hX) g2 g3, Option.bind_some, w32_id (by omega) (by omega)]
    congr 1
    unfold mn
    rw [if_neg (by omega)]
theorem ckb (h : CKX T sc sm n t S P A N K C w) (g : GOOD T sc sm S A N w) (h8 : sm 84 8 = -1) (h6 : sm 84 6 = 0) : ∃ s' : Sg, f_216 sm = some s' ∧ TLD sm s' 10 (∃ i, i < S ∧ bdB T sc sm w i) := by
  obtain ⟨hT, hX, hC, hD, hN, h19, h31, h34, h30, wz, tw, S8, P8, A8, N8⟩ := id h
  have z8 := hT.1
  have step : ∀ F i s, i < S → AG sm s → ∃ s' : Sg, j_216_2 (F + 1) (i : Int) s = j_216_2 F ((i + 1 : Nat) : Int) s' ∧ FD s s' (bdB T sc sm w i) := by
    intro F i s hi ha
    have k88 : ∀ x : Sg, j_216_88 (j_216_2 F) (i : Int) x = j_216_2 F ((i + 1 : Nat) : Int) x := fun x => by
      unfold j_216_88
      rw [w32_nat (by omega)]
    obtain ⟨hd, p0, pc, n0, b1, b2, b3, b4, b5, b6, b7, b8, b9, b10, b11⟩ := hD.1 i hi
    rw [j_216_2, ha.2 19 (by decide), h19, if_neg (by omega), gd_pos (by omega), Int.toNat_natCast, ha.1 94 (by decide)]
    unfold bdB
    by_cases c : sm 94 i = 3
    · have s57 : sc 57 i = bsm T sc sm p0 pc := by
        rcases b11 with ⟨u, -⟩ | ⟨u, -⟩ | ⟨u, -⟩ | ⟨_, _, _, u⟩
        · omega
        · omega
        · omega
        · exact u
      have lp : ∀ (r l G : Nat), l + r = pc → j_216_29 (j_216_2 F) (G + r + 1) (i : Int) (bsm T sc sm p0 l) ((p0 + l : Nat) : Int) s = j_216_60 (j_216_2 F) (i : Int) (bsm T sc sm p0 pc) s := by
        intro r
        induction r with
        | zero =>
          intro l G hl
          rw [j_216_29, gd_pos (by omega), gd_pos (by omega), Int.toNat_natCast, ha.1 98 (by decide), ha.1 99 (by decide), b6, b7, w32_add (by omega), if_pos (by omega), show l = pc by omega]
        | succ r ih =>
          intro l G hl
          have m9 := m219 h g hi (q := p0 + l) (by rw [b6, Int.toNat_natCast]; omega) (by rw [b6, b7, Int.toNat_natCast, Int.toNat_natCast]; omega) ha
          rw [show G + (r + 1) + 1 = (G + r + 1) + 1 by omega, j_216_29, gd_pos (by omega), gd_pos (by omega), Int.toNat_natCast, ha.1 98 (by decide), ha.1 99 (by decide), b6, b7, w32_add (by omega), if_neg (by omega), m9, Option.bind_some, w32_nat (i := p0 + l) (by omega)]
          exact ih (l + 1) G (by omega)
      obtain ⟨F', hF⟩ := FU_split (k := pc + 1) (by omega)
      have e0 := lp pc 0 F' (by omega)
      rw [show F' + pc + 1 = FU by omega] at e0
      have e0' : j_216_29 (j_216_2 F) FU (i : Int) 0 (p0 : Int) s = j_216_60 (j_216_2 F) (i : Int) (bsm T sc sm p0 pc) s := e0
      rw [if_neg (fun e => e c), gd_pos (by omega), ha.1 98 (by decide), b6, e0', s57]
      unfold j_216_60
      have gw := g.1
      rw [ha.2 30 (by decide), h30, m218 hT (ha.tx hX) wz tw, Option.bind_some, w32_id (by omega) (by omega)]
      by_cases d : bsm T sc sm p0 pc = T.vl w
      · rw [if_pos d, k88]
        exact ⟨s, rfl, (FD.refl s).iff ⟨fun y => y.elim, fun y => y.2 d⟩⟩
      · obtain ⟨i1, j1, w1, _⟩ := hX.nm b3 b4
        rw [if_neg d, gd_pos (by omega), Int.toNat_natCast, ha.1 95 (by decide), b2, gd_pos (by omega), Int.toNat_natCast, ha.1 89 (by decide), w1, Option.bind_some, k88]
        exact ⟨_, rfl, (m235 (by omega)).iff ⟨fun _ => ⟨c, d⟩, fun _ => trivial⟩⟩
    · rw [if_pos c, k88]
      exact ⟨s, rfl, (FD.refl s).iff ⟨fun y => y.elim, fun y => c y.1⟩⟩
  obtain ⟨s2, e2, f2, a2⟩ := loop_fu (j := j_216_2) (tl := j_216_94) (s0 := sm) (M := S) step (fun F s y => by rw [j_216_2, y.2 19 (by decide), h19, if_pos (by omega)]) (by omega) (AG.refl sm)
  obtain ⟨s6, e6, t6⟩ := m237 (k := 10) f2 h8 h6
  refine ⟨s6, ?_, t6⟩
  unfold f_216
  rw [e2]
  unfold j_216_94
  rw [e6, Option.bind_some]
/-- the class's side -/
theorem c20 (h : CKX T sc sm n t S P A N K C w) (g : GOOD T sc sm S A N w) (h54 : s 54 6 = (S : Int)) (h57 : s 54 7 = mn (T.vl w)) (hS8 : S ≤ 1171) (hc : CC T s) (r5 : ∀ c, 55 ≤ c → c ≤ 57 → s c = sc c) : ∃ s' : Sg, f_20 s = some s' ∧ NTk 10 s s' (∃ i, i < S ∧ bdB T sc sm w i) := by
  obtain ⟨hT, hX, hC, hD, hN, h19, h31, h34, h30, wz, tw, S8, P8, A8, N8⟩ := id h
  have z8 := hT.1
  have gw := g.1
  have hw : mn (T.vl w) = T.vl w := by unfold mn; rw [if_neg (by omega)]
  have step : ∀ F i x, i < S → (∀ c, c ≠ 30 → x c = s c) → ∃ x' : Sg, j_20_2 (F + 1) (i : Int) x = j_20_2 F ((i + 1 : Nat) : Int) x' ∧ NTk 10 x x' (bdB T sc sm w i) := by
    intro F i x hi y
    obtain ⟨hd, p0, pc, n0, b1, b2, b3, b4, b5, -⟩ := hD.1 i hi
    have k77 : ∀ z : Sg, j_20_77 (j_20_2 F) (i : Int) z = j_20_2 F ((i + 1 : Nat) : Int) z := fun z => by
      unfold j_20_77
      rw [w32_nat (by omega)]
    have e81 : f_181 (i : Int) x = 1 := by unfold f_181; rw [y 54 (by decide), h54, if_neg (by omega), if_neg (by omega)]
    have gg : 0 ≤ (i : Int) ∧ (i : Int) < 1171 := by omega
    have g2 : g_182 (i : Int) x := by unfold g_182; exact ⟨fun _ => trivial, fun _ => ⟨gg, trivial⟩⟩
    have g3 : g_183 (i : Int) x := by unfold g_183; exact ⟨fun _ => trivial, fun _ => ⟨gg, trivial⟩⟩
    have g7 : g_187 (i : Int) x := by unfold g_187; exact ⟨fun _ => trivial, fun _ => ⟨gg, trivial⟩⟩
    have f2 : f_182 (i : Int) x = sm 94 i := by unfold f_182; rw [e81, if_neg (by decide), Int.toNat_natCast, y 55 (by decide), r5 55 (by decide) (by decide), b5]
    have f3 : f_183 (i : Int) x = sc 57 i := by unfold f_183; rw [e81, if_neg (by decide), Int.toNat_natCast, y 57 (by decide), r5 57 (by decide) (by decide)]
    have f7 : f_187 (i : Int) x = (hd : Int) := by unfold f_187; rw [e81, if_neg (by decide), Int.toNat_natCast, y 56 (by decide), r5 56 (by decide) (by decide), b1]
    have hcx : CC T x := hc.row (by rw [y 39 (by decide)]) (y 41 (by decide)) (y 42 (by decide)) (y 44 (by decide)) (by rw [y 31 (by decide)]) (y 1 (by decide))
    rw [j_20_2, y 54 (by decide), h54, if_neg (by omega), gd_pos g2, f2]
    unfold bdB
    by_cases c : sm 94 i = 3
    · rw [if_neg (show ¬ sm 94 i = 3 → False from fun e => e c), if_neg (by decide), gd_pos g3, f3, h57, hw]
      by_cases d : sc 57 i = T.vl w
      · rw [if_pos d, k77]
        exact ⟨x, rfl, (NTk.refl x).iff ⟨fun z => z.elim, fun z => z.2 d⟩⟩
      · obtain ⟨p1, p2⟩ := c80 (a := hd) hcx hT (by omega)
        have f0 := hT.2.2.2.1 hd (by omega)
        obtain ⟨q1, q2⟩ := c71k (s := x) (k := 10) (x := T.fm hd) (by decide) (by decide) f0
        have q1' : g_71 10 (T.fm hd) x := q1
        rw [if_neg d, gd_pos g7, f7, gd_pos p2, p1, gd_pos q1', Option.bind_some, k77]
        exact ⟨_, rfl, NTk.iff (p := True) q2 ⟨fun _ => ⟨c, d⟩, fun _ => trivial⟩⟩
    · rw [if_pos c, if_pos rfl, k77]
      exact ⟨x, rfl, (NTk.refl x).iff ⟨fun z => z.elim, fun z => c z.1⟩⟩
  obtain ⟨s', e1, e2⟩ := loop_k (k := 10) (s0 := s) (j := j_20_2) (tl := fun x => some x) (M := S) step (fun F x y => by rw [j_20_2, y 54 (by decide), h54, if_pos (by omega)]) (by omega) (fun _ _ => rfl)
  exact ⟨s', by unfold f_20; rw [e1], e2⟩
end BIT
/-! WIDTHS: the reference's names. -/
/-- but for widths and what is found, two states agree -/
def AGw (s0 s : Sg) : Prop := (∀ c, c ≠ 84 → c ≠ 122 → s c = s0 c) ∧ (∀ j, j ≠ 8 → s 84 j = s0 84 j)
noncomputable def cite (p : Prop) (a b : Int) : Int := @ite Int p (Classical.propDecidable p) a b
theorem cite_y {p : Prop} {a b : Int} (h : p) : cite p a b = a := if_pos h
theorem cite_n {p : Prop} {a b : Int} (h : ¬ p) : cite p a b = b := if_neg h
def lg (v : Int) : Int := if v ≤ 2 then 1 else if v ≤ 4 then 2 else if v ≤ 8 then 3 else if v ≤ 16 then 4 else if v ≤ 32 then 5 else 6
def iw (T : TT) (sm : Sg) (i : Nat) : Int := if sm 94 i = 1 then T.vl (sm 96 i).toNat else lg (T.vl (sm 96 i).toNat)
section WNM
variable {T : TT} {sc sm s s' : Sg} {n a b S P A N K C w i x : Nat} {t : Nat → Int} {r v : Int}
theorem AGw.tx (h : AGw sm s) (k : TX T sc sm n t) : TX T sc s n t := k.mrow (h.2 3 (by decide)) (h.1 86 (by decide) (by decide)) (h.1 89 (by decide) (by decide)) (h.1 90 (by decide) (by decide))
theorem AGw.owk (h : AGw sm s) (k : OWK T sm S A) : OWK T s S A := by
  unfold OWK NMD at *
  rw [h.2 19 (by decide), h.1 95 (by decide) (by decide), h.1 98 (by decide) (by decide), h.1 99 (by decide) (by decide), h.1 104 (by decide) (by decide), h.1 113 (by decide) (by decide), h.1 106 (by decide) (by decide), h.1 107 (by decide) (by decide)]
  exact k
theorem AGw.sof (h : AGw sm s) : SOF T s S v r ↔ SOF T sm S v r := by
  unfold SOF
  rw [h.1 95 (by decide) (by decide)]
theorem FD.agw {p : Prop} (h : AGw sm s) (k : FD s s' p) : AGw sm s' := ⟨fun c x y => (k.1 c x).trans (h.1 c x y), fun j x => (k.2.1 j x).trans (h.2 j x)⟩
/-- the statement of a name that has one -/
theorem m238w (h : CKX T sc sm n t S P A N K C w) (ha : AGw sm s) (hx : x < T.z) (tx : T.tk x = 1) (so : SO1 T sm S (T.vl x) i) : f_238 (x : Int) s = some (i : Int) := by
  have ok := h.owk
  obtain ⟨hT, hX, -⟩ := h
  obtain ⟨r, e1, e2⟩ := m238 hT (ha.tx hX) (ha.owk ok) hx tx
  rw [ha.sof] at e2
  rcases e2 with ⟨_, e3⟩ | ⟨f, e2, e3, e4, e5⟩
  · exact absurd so.2.1 (e3 i so.1)
  · have : f = i := SO1.uniq ⟨e3, e4, e5⟩ so
    rw [e1, e2, this]
/-- a statement's width -/
theorem m97 (h : CKX T sc sm n t S P A N K C w) (g : GOOD T sc sm S A N w) (ha : AGw sm s) (hi : i < S) (hk : sm 94 i < 3) : ∃ c : Nat, sm 97 i = (c : Int) ∧ f_218 (c : Int) s = some (T.vl c) ∧ ax_w32 (T.vl c) = T.vl c ∧ 1 ≤ T.vl c ∧ T.vl c ≤ 32 ∧ sc 57 i = T.vl c := by
  obtain ⟨hT, hX, hC, hD, -⟩ := h
  obtain ⟨hd, p0, pc, n0, b1, b2, b3, b4, b5, b6, b7, b8, b9, b10, b11⟩ := hD.1 i hi
  have kw : SKW T sc sm i := by
    rcases b11 with ⟨_, _, u, _⟩ | ⟨_, _, u, _⟩ | ⟨_, _, u, _⟩ | ⟨u, -⟩
    · exact u
    · exact u
    · exact u
    · omega
  obtain ⟨c, g1, g2, g3, g4⟩ := kw
  have gv := (g.2.1 i hi).1 hk
  rw [g1, Int.toNat_natCast] at gv
  refine ⟨c, g1, m218 hT (ha.tx hX) g2 g3, w32_id (by omega) (by omega), gv.1, gv.2, ?_⟩
  rw [g4]
  unfold mn
  rw [if_neg (by omega)]
theorem lg_d : ∀ k : Nat, k < 65 → pw2 (k : Int) → ∀ s : Sg, j_256_26 7 (k : Int) 0 s = some (lg (k : Int)) ∧ f_295 (k : Int) s = lg (k : Int) := by
  intro k hk hp s
  have : k = 2 ∨ k = 4 ∨ k = 8 ∨ k = 16 ∨ k = 32 ∨ k = 64 := by unfold pw2 at hp; omega
  rcases this with e | e | e | e | e | e <;> subst e <;> exact ⟨rfl, rfl⟩
theorem j256_up : ∀ (F : Nat) (l2 l3 q : Int) (s : Sg), j_256_26 F l2 l3 s = some q → ∀ G, j_256_26 (F + G) l2 l3 s = some q := by
  intro F
  induction F with
  | zero => intro l2 l3 q s h; cases h
  | succ F ih =>
    intro l2 l3 q s h G
    rw [show F + 1 + G = (F + G) + 1 by omega, j_256_26]
    rw [j_256_26] at h
    split
    · rename_i c
      rw [if_pos c] at h
      exact h
    · rename_i c
      rw [if_neg c] at h
      exact ih _ _ _ _ h G
/-- how wide an index is -/
theorem m256 (h : CKX T sc sm n t S P A N K C w) (g : GOOD T sc sm S A N w) (ha : AGw sm s) (hi : i < S) (hf : sm 94 i = 1 ∨ sm 94 i = 0 ∧ 0 ≤ sm 96 i) : f_256 (i : Int) s = some (iw T sm i) ∧ 1 ≤ iw T sm i ∧ ∃ c : Nat, sm 96 i = (c : Int) ∧ c < T.z ∧ sc 58 i = T.vl c ∧ (sm 94 i ≠ 1 → pw2 (T.vl c)) := by
  obtain ⟨hT, hX, hC, hD, hN, h19, h31, h34, h30, wz, tw, S8, P8, A8, N8⟩ := id h
  obtain ⟨hd, p0, pc, n0, b1, b2, b3, b4, b5, b6, b7, b8, b9, b10, b11⟩ := hD.1 i hi
  have kc : SKC T sc sm i := by
    rcases b11 with ⟨_, _, _, u⟩ | ⟨_, _, _, u⟩ | ⟨u, -⟩ | ⟨u, -⟩
    · rcases u with u | u
      · omega
      · exact u
    · exact u
    · omega
    · omega
  obtain ⟨c, g1, g2, g3, g4⟩ := kc
  have v0 := hT.2.2.2.2.1 c g2
  unfold f_256 iw
  rw [gd_pos (by omega), Int.toNat_natCast, ha.1 96 (by decide) (by decide), ha.1 94 (by decide) (by decide), g1, m218 hT (ha.tx hX) g2 g3, Option.bind_some, gd_pos (by omega), Int.toNat_natCast]
  by_cases c1 : sm 94 i = 1
  · have gv := (g.2.1 i hi).2.1 c1
    rw [g1, Int.toNat_natCast] at gv
    rw [if_neg (fun e => e c1), if_pos c1, w32_id (by omega) (by omega)]
    refine ⟨rfl, gv.1, c, rfl, g2, ?_, fun e => absurd c1 e⟩
    rw [g4]
    unfold mn
    rw [if_neg (by omega)]
  · have gv := (g.2.1 i hi).2.2.1 (by omega) (by omega)
    rw [g1, Int.toNat_natCast] at gv
    have hb : T.vl c ≤ 64 := by unfold pw2 at gv; omega
    have ld := lg_d (T.vl c).toNat (by omega) (by rw [Int.toNat_of_nonneg v0.1]; exact gv) s
    rw [Int.toNat_of_nonneg v0.1] at ld
    obtain ⟨F, hF⟩ := FU_split (k := 7) (by omega)
    have up := j256_up 7 _ _ _ _ ld.1 F
    rw [show 7 + F = FU by omega] at up
    rw [if_pos c1, if_neg c1, w32_id (by omega) (by omega)]
    refine ⟨up, ?_, c, rfl, g2, ?_, fun _ => gv⟩
    · unfold lg
      repeat' split
      all_goals decide
    · rw [g4]
      unfold mn
      rw [if_neg (by omega)]
/-- the width of a name -/
theorem m255r (h : CKX T sc sm n t S P A N K C w) (ha : AGw sm s) (hx : x < T.z) (tx : T.tk x = 1) (si : Nat) : ∀ (q : Nat) (r : Int) (F : Nat), r < (q : Int) → r < (A : Int) → (0 ≤ r → sm 106 r.toNat = 2) → (rin T sm (T.vl x) q r → j_255_3 (F + q + 1) (si : Int) (x : Int) r s = some 8) ∧ (¬ rin T sm (T.vl x) q r → j_255_3 (F + q + 1) (si : Int) (x : Int) r s = j_255_38 (si : Int) (x : Int) s) := by
  have ok := h.owk
  obtain ⟨hT, hX, -⟩ := h
  obtain ⟨k1, k2, k3, k4, k5, k6⟩ := id ok
  intro q
  induction q with
  | zero =>
    intro r F hr _ _
    rw [j_255_3, if_pos (by omega)]
    exact ⟨fun y => absurd y (fun z => z), fun _ => rfl⟩
  | succ q ih =>
    intro r F hr hA hk
    by_cases c : r < 0
    · rw [j_255_3, if_pos c]
      exact ⟨fun y => absurd y.1 (by omega), fun _ => rfl⟩
    · obtain ⟨u, hu⟩ : ∃ u : Nat, r = (u : Int) := ⟨r.toNat, by omega⟩
      subst hu
      rw [Int.toNat_natCast] at hk
      obtain ⟨g1, g2, g3, g4⟩ := k6 u (by omega)
      obtain ⟨y, y1, y2, y3⟩ := g4 (hk (by omega))
      have e : rin T sm (T.vl x) (q + 1) (u : Int) ↔ (T.vl y = T.vl x ∨ rin T sm (T.vl x) q (sm 113 u)) := by
        show (0 ≤ (u : Int) ∧ (T.vl (sm 107 (u : Int).toNat).toNat = T.vl x ∨ rin T sm (T.vl x) q (sm 113 (u : Int).toNat))) ↔ _
        rw [Int.toNat_natCast, y1, Int.toNat_natCast]
        exact ⟨fun z => z.2, fun z => ⟨by omega, z⟩⟩
      have st : j_255_3 (F + (q + 1) + 1) (si : Int) (x : Int) (u : Int) s = (if T.vl y = T.vl x then some 8 else j_255_3 (F + q + 1) (si : Int) (x : Int) (sm 113 u) s) := by
        rw [show F + (q + 1) + 1 = (F + q + 1) + 1 by omega, j_255_3, if_neg c, gd_pos (by omega), Int.toNat_natCast, ha.1 107 (by decide) (by decide), ha.1 113 (by decide) (by decide), y1, m239 hT (ha.tx hX) y2 y3 hx tx, Option.bind_some]
        by_cases d : T.vl y = T.vl x
        · rw [p01_y d, if_neg (by decide), if_pos d]
        · rw [p01_n d, if_pos rfl, gd_pos (by omega), if_neg d]
      obtain ⟨i1, i2⟩ := ih (sm 113 u) F (by omega) (by omega) g3
      rw [st]
      by_cases d : T.vl y = T.vl x
      · rw [if_pos d]
        exact ⟨fun _ => rfl, fun z => absurd (e.mpr (Or.inl d)) z⟩
      · rw [if_neg d]
        exact ⟨fun z => by
          rcases e.mp z with z | z
          · exact absurd z d
          · exact i1 z, fun z => i2 (fun u => z (e.mpr (Or.inr u)))⟩
theorem m255p (h : CKX T sc sm n t S P A N K C w) (ha : AGw sm s) (hx : x < T.z) (tx : T.tk x = 1) (hi : i < S) {p0 pc : Nat} (b6 : sm 98 i = (p0 : Int)) (b7 : sm 99 i = (pc : Int)) : ∀ (q l F : Nat), l + q = p0 + pc → p0 ≤ l → (∃ p, l ≤ p ∧ p < p0 + pc ∧ 0 ≤ sm 104 p ∧ T.vl (sm 104 p).toNat = T.vl x ∧ j_255_46 (F + q + 1) (i : Int) (x : Int) (l : Int) s = j_255_89 (p : Int) s) ∨ ((∀ p, l ≤ p → p < p0 + pc → 0 ≤ sm 104 p → T.vl (sm 104 p).toNat ≠ T.vl x) ∧ j_255_46 (F + q + 1) (i : Int) (x : Int) (l : Int) s = j_255_108 (x : Int) s) := by
  have ok := h.owk
  obtain ⟨hT, hX, hC, hD, hN, h19, h31, h34, h30, wz, tw, S8, P8, A8, N8⟩ := h
  obtain ⟨p0', pc', g1, g2, g3, g4⟩ := ok.2.2.2.2.1 i hi
  have e0 : p0' = p0 := by omega
  have e1 : pc' = pc := by omega
  subst e0
  subst e1
  intro q
  induction q with
  | zero =>
    intro l F hl hp
    right
    refine ⟨fun p y z => absurd z (by omega), ?_⟩
    rw [j_255_46, gd_pos (by omega), gd_pos (by omega), Int.toNat_natCast, ha.1 98 (by decide) (by decide), ha.1 99 (by decide) (by decide), b6, b7, w32_add (by omega), if_pos (by omega)]
  | succ q ih =>
    intro l F hl hp
    have st : j_255_46 (F + (q + 1) + 1) (i : Int) (x : Int) (l : Int) s = (if sm 104 l < 0 then j_255_46 (F + q + 1) (i : Int) (x : Int) ((l + 1 : Nat) : Int) s else if T.vl (sm 104 l).toNat = T.vl x then j_255_89 (l : Int) s else j_255_46 (F + q + 1) (i : Int) (x : Int) ((l + 1 : Nat) : Int) s) := by
      rw [show F + (q + 1) + 1 = (F + q + 1) + 1 by omega, j_255_46, gd_pos (by omega), gd_pos (by omega), Int.toNat_natCast, Int.toNat_natCast, ha.1 98 (by decide) (by decide), ha.1 99 (by decide) (by decide), ha.1 104 (by decide) (by decide), b6, b7, w32_add (by omega), if_neg (by omega), gd_pos (by omega)]
      unfold j_255_102
      rw [w32_nat (by omega)]
      by_cases c : sm 104 l < 0
      · rw [if_pos c, if_pos c]
      · obtain ⟨y, y1, y2, y3⟩ := g4 l hp (by omega) (by omega)
        rw [if_neg c, if_neg c, gd_pos (by omega), y1, m239 hT (ha.tx hX) y2 y3 hx tx, Option.bind_some, Int.toNat_natCast]
        by_cases d : T.vl y = T.vl x
        · rw [p01_y d, if_neg (by decide), if_pos d]
        · rw [p01_n d, if_pos rfl, if_neg d]
    rw [st]
    have nx := ih (l + 1) F (by omega) (by omega)
    by_cases c : sm 104 l < 0
    · rw [if_pos c]
      rcases nx with ⟨p, y1, y2, y3, y4, y5⟩ | ⟨y1, y2⟩
      · exact Or.inl ⟨p, by omega, y2, y3, y4, y5⟩
      · refine Or.inr ⟨fun p z1 z2 z3 => ?_, y2⟩
        by_cases e : p = l
        · rw [e] at z3; omega
        · exact y1 p (by omega) z2 z3
    · rw [if_neg c]
      by_cases d : T.vl (sm 104 l).toNat = T.vl x
      · rw [if_pos d]
        exact Or.inl ⟨l, Nat.le_refl _, by omega, by omega, d, rfl⟩
      · rw [if_neg d]
        rcases nx with ⟨p, y1, y2, y3, y4, y5⟩ | ⟨y1, y2⟩
        · exact Or.inl ⟨p, by omega, y2, y3, y4, y5⟩
        · refine Or.inr ⟨fun p z1 z2 z3 => ?_, y2⟩
          by_cases e : p = l
          · rw [e]; exact d
          · exact y1 p (by omega) z2 z3
theorem m255 (h : CKX T sc sm n t S P A N K C w) (g : GOOD T sc sm S A N w) (ha : AGw sm s) (hx : x < T.z) (tx : T.tk x = 1) {si : Nat} (hsi : si < S) (hr : r < (A : Int)) (hr2 : 0 ≤ r → sm 106 r.toNat = 2) {v : Int} (ev1 : v ≠ 0 ↔ OWN T sm si r (T.vl x)) (ev2 : v ≠ 0 → OWW T sm si r (T.vl x) v) (so : v = 0 → SO1 T sm S (T.vl x) i ∧ sm 94 i < 3) : ∃ u : Int, f_255 (si : Int) r (x : Int) s = some u ∧ 1 ≤ u ∧ u ≤ 32 ∧ (v ≠ 0 → u = v) ∧ (v = 0 → u = T.vl (sm 97 i).toNat) := by
  have ok := h.owk
  obtain ⟨hT, hX, hC, hD, hN, h19, h31, h34, h30, wz, tw, S8, P8, A8, N8⟩ := id h
  obtain ⟨hd, p0, pc, n0, b1, b2, b3, b4, b5, b6, b7, b8, -⟩ := hD.1 si hsi
  obtain ⟨F, hF⟩ := FU_split (k := 8200 + 1) (by omega)
  have ch := m255r h ha hx tx si 8200 r F (by omega) hr hr2
  rw [show F + 8200 + 1 = FU by omega] at ch
  unfold f_255
  have z8 := hT.1
  by_cases c : rin T sm (T.vl x) 8200 r
  · have v0 : v ≠ 0 := ev1.mpr (Or.inr c)
    refine ⟨8, ch.1 c, by decide, by decide, fun _ => ?_, fun y => absurd y v0⟩
    rcases ev2 v0 with ⟨_, y⟩ | ⟨y, _⟩
    · exact y.symm
    · exact absurd c y
  · rw [ch.2 c]
    unfold j_255_38
    rw [gd_pos (by omega), Int.toNat_natCast, ha.1 98 (by decide) (by decide), b6]
    obtain ⟨F', hF'⟩ := FU_split (k := pc + 1) (by omega)
    have lp := m255p h ha hx tx hsi b6 b7 pc p0 F' (by omega) (Nat.le_refl _)
    rw [show F' + pc + 1 = FU by omega] at lp
    rcases lp with ⟨p, y1, y2, y3, y4, y5⟩ | ⟨y1, y2⟩
    · have v0 : v ≠ 0 := ev1.mpr (Or.inl ⟨p, by rw [b6, Int.toNat_natCast]; exact y1, by rw [b6, b7, Int.toNat_natCast, Int.toNat_natCast]; exact y2, y3, y4⟩)
      have gp := fun p (u1 : p0 ≤ p) (u2 : p < p0 + pc) => (g.2.1 si hsi).2.2.2.2 p (by rw [b6, Int.toNat_natCast]; exact u1) (by rw [b6, b7, Int.toNat_natCast, Int.toNat_natCast]; exact u2)
      obtain ⟨z, z1, z2, z3, z4⟩ := hD.prt (p := p) (by omega)
      have gv := (gp p y1 y2).1 y3
      rw [z1, Int.toNat_natCast] at gv
      have e89 : j_255_89 (p : Int) s = some (T.vl z) := by
        unfold j_255_89
        rw [gd_pos (by omega), Int.toNat_natCast, ha.1 105 (by decide) (by decide), z1, m218 hT (ha.tx hX) z2 z3, Option.bind_some, w32_id (by omega) (by omega)]
      refine ⟨T.vl z, by rw [y5, e89], gv.1, gv.2, fun _ => ?_, fun y => absurd y v0⟩
      rcases ev2 v0 with ⟨y, _⟩ | ⟨_, p', q1, q2, q3, q4, q5⟩
      · exact absurd y c
      · rw [b6, Int.toNat_natCast] at q1
        rw [b6, b7, Int.toNat_natCast, Int.toNat_natCast] at q2
        have : p' = p := by
          by_cases c1 : p' < p
          · exact absurd (by rw [y4, q4]) ((gp p y1 y2).2.2 p' (by rw [b6, Int.toNat_natCast]; exact q1) c1 y3 q3)
          · by_cases c2 : p < p'
            · exact absurd (by rw [y4, q4]) ((gp p' q1 q2).2.2 p (by rw [b6, Int.toNat_natCast]; exact y1) c2 q3 y3)
            · omega
        rw [this, z1, Int.toNat_natCast] at q5
        rw [q5]
        unfold mn
        rw [if_neg (show ¬ 1073741824 < T.vl z by omega), if_neg (by omega)]
    · have v0 : v = 0 := by
        apply Decidable.byContradiction
        intro hn
        rcases ev1.mp hn with ⟨p, u1, u2, u3, u4⟩ | u
        · rw [b6, Int.toNat_natCast] at u1
          rw [b6, b7, Int.toNat_natCast, Int.toNat_natCast] at u2
          exact y1 p u1 u2 u3 u4
        · exact c u
      obtain ⟨so1, so2⟩ := so v0
      obtain ⟨c9, d1, d2, d3, d4, d5, d6⟩ := m97 h g ha so1.1 so2
      have i8 := so1.1
      have e108 : j_255_108 (x : Int) s = some (T.vl c9) := by
        unfold j_255_108
        rw [m238w h ha hx tx so1, Option.bind_some, gd_pos (by omega), Int.toNat_natCast, ha.1 97 (by decide) (by decide), d1, d2, Option.bind_some, d3]
      exact ⟨T.vl c9, by rw [y2, e108], d4, d5, fun y => absurd v0 y, fun _ => by rw [d1, Int.toNat_natCast]⟩
end WNM
/-! WIDTHS: what a node's is; the class's side. -/
def kd (sm : Sg) (q i : Nat) : Nat := (sm 125 (q + i)).toNat
def osum (ω : Nat → Int) : Nat → Int
  | 0 => 0
  | c + 1 => osum ω c + ω c
/-- a node's width, from those of its parts; -2 where it is wrong -/
noncomputable def WSP (T : TT) (sc sm : Sg) (n i c : Nat) (ω : Nat → Int) : Int :=
  if sm 116 n = 0 then T.vl (sm 119 n).toNat
  else if sm 116 n = 1 then (if sc 48 n = 0 then T.vl (sm 97 i).toNat else sc 48 n)
  else if sm 116 n = 2 then (if ω 0 = iw T sm i then T.vl (sm 97 i).toNat else -2)
  else if sm 116 n = 3 then cite (∀ j, j < c → ω j = T.vl (sm 105 ((sm 98 i).toNat + j)).toNat) (T.vl (sm 97 i).toNat) (-2)
  else if sm 116 n = 4 ∨ sm 116 n = 5 then (if ω 0 ≤ T.vl (sm 119 n).toNat then T.vl (sm 119 n).toNat else -2)
  else if sm 116 n = 6 then (if osum ω c ≤ 32 then osum ω c else -2)
  else if sm 116 n = 7 then (if T.vl (sm 118 n).toNat < ω 0 then T.vl (sm 118 n).toNat - T.vl (sm 119 n).toNat + 1 else -2)
  else if sm 116 n = 8 ∨ sm 116 n = 9 ∨ sm 116 n = 13 ∨ sm 116 n = 14 then ω 0
  else if sm 116 n = 21 then (if ω 0 = 1 ∧ ω 1 = ω 2 then ω 1 else -2)
  else (if ω 0 = ω 1 then (if sm 116 n < 18 then ω 0 else 1) else -2)
def wv (v : Int) : Int := if v = -2 then 0 else v
/-- the class's nodes -/
def NKD (sc sm : Sg) (N n c q : Nat) : Prop := n < N ∧ N ≤ 8192 ∧ sc 46 7 = (N : Int) ∧ sc 53 n = (c : Int) ∧ sc 51 n = (if 0 < c then sm 125 q else -1) ∧ (∀ i, i < c → ∃ x : Nat, sm 125 (q + i) = (x : Int) ∧ x < n ∧ sc 52 x = (if i + 1 < c then sm 125 (q + (i + 1)) else -1))
section WCL
variable {T : TT} {sc sm s s' : Sg} {n' S P A N K C w i n c q : Nat} {t : Nat → Int} {r v : Int}
theorem osum_b {ω : Nat → Int} : ∀ c, (∀ j, j < c → 1 ≤ ω j ∧ ω j ≤ 32) → (c : Int) ≤ osum ω c ∧ osum ω c ≤ 32 * (c : Int) := by
  intro c
  induction c with
  | zero => intro _; exact ⟨by simp [osum], by simp [osum]⟩
  | succ c ih =>
    intro h
    have a := ih (fun j hj => h j (by omega))
    have b := h c (by omega)
    simp only [osum]
    omega
theorem osum_c {ω ω' : Nat → Int} : ∀ c, (∀ j, j < c → ω j = ω' j) → osum ω c = osum ω' c := by
  intro c
  induction c with
  | zero => intro _; rfl
  | succ c ih =>
    intro h
    simp only [osum]
    rw [ih (fun j hj => h j (by omega)), h c (by omega)]
theorem nd117 (hN : sc 46 7 = (N : Int)) (hn : n < N) (h8 : N ≤ 8192) (r46 : s 46 7 = sc 46 7) : g_117 (n : Int) s ∧ f_117 (n : Int) s = s 48 n ∧ g_116 (n : Int) s ∧ f_116 (n : Int) s = s 47 n ∧ g_118 (n : Int) s ∧ f_118 (n : Int) s = s 53 n ∧ g_120 (n : Int) s ∧ f_120 (n : Int) s = s 51 n ∧ g_121 (n : Int) s ∧ f_121 (n : Int) s = s 52 n ∧ g_122 (n : Int) s ∧ f_122 (n : Int) s = s 50 n ∧ g_115 (n : Int) s ∧ f_115 (n : Int) s = s 49 n ∧ (∀ z : Int, g_123 (n : Int) z s ∧ f_123 (n : Int) z s = ax_u2 s 48 n z) := by
  have e114 : f_114 (n : Int) s = 1 := by unfold f_114; rw [r46, hN, if_neg (by omega), if_neg (by omega)]
  have g : 0 ≤ (n : Int) ∧ (n : Int) < 8192 := by omega
  have gg : (f_114 (n : Int) s = 0 → True) ∧ (¬ (f_114 (n : Int) s = 0) → ((0 ≤ (n : Int) ∧ (n : Int) < 8192) ∧ True)) := ⟨fun _ => trivial, fun _ => ⟨g, trivial⟩⟩
  refine ⟨gg, ?_, gg, ?_, gg, ?_, gg, ?_, gg, ?_, gg, ?_, gg, ?_, fun z => ⟨gg, ?_⟩⟩
  · unfold f_117; rw [e114, if_neg (by decide), Int.toNat_natCast]
  · unfold f_116; rw [e114, if_neg (by decide), Int.toNat_natCast]
  · unfold f_118; rw [e114, if_neg (by decide), Int.toNat_natCast]
  · unfold f_120; rw [e114, if_neg (by decide), Int.toNat_natCast]
  · unfold f_121; rw [e114, if_neg (by decide), Int.toNat_natCast]
  · unfold f_122; rw [e114, if_neg (by decide), Int.toNat_natCast]
  · unfold f_115; rw [e114, if_neg (by decide), Int.toNat_natCast]
  · unfold f_123; rw [e114, if_neg (by decide), Int.toNat_natCast]
theorem nd117n : g_117 (-1) s ∧ f_117 (-1) s = 0 ∧ g_121 (-1) s ∧ f_121 (-1) s = -1 := by
  have e114 : f_114 (-1) s = 0 := by unfold f_114; rw [if_pos (by decide)]
  refine ⟨⟨fun _ => trivial, fun y => absurd e114 y⟩, ?_, ⟨fun _ => trivial, fun y => absurd e114 y⟩, ?_⟩
  · unfold f_117; rw [e114, if_pos rfl]
  · unfold f_121; rw [e114, if_pos rfl]
/-- the j-th part, or none -/
theorem NKD.at (h : NKD sc sm N n c q) {j : Nat} (hj : j < c) : sm 125 (q + j) = ((kd sm q j : Nat) : Int) ∧ kd sm q j < n ∧ sc 52 (kd sm q j) = (if j + 1 < c then ((kd sm q (j + 1) : Nat) : Int) else -1) := by
  obtain ⟨h1, h2, h3, h4, h5, h6⟩ := h
  obtain ⟨x, x1, x2, x3⟩ := h6 j hj
  have e : kd sm q j = x := by unfold kd; rw [x1, Int.toNat_natCast]
  rw [e]
  refine ⟨x1, x2, ?_⟩
  rw [x3]
  by_cases d : j + 1 < c
  · obtain ⟨y, y1, y2, y3⟩ := h6 (j + 1) d
    rw [if_pos d, if_pos d, y1]
    unfold kd
    rw [y1, Int.toNat_natCast]
  · rw [if_neg d, if_neg d]
/-- where one stands at the j-th part -/
def cp (sm : Sg) (q c j : Nat) : Int := if j < c then ((kd sm q j : Nat) : Int) else -1
theorem NKD.first (h : NKD sc sm N n c q) : sc 51 n = cp sm q c 0 := by
  unfold cp
  rw [h.2.2.2.2.1]
  by_cases d : 0 < c
  · rw [if_pos d, if_pos d]
    have := (h.at d).1
    rw [Nat.add_zero] at this
    exact this
  · rw [if_neg d, if_neg d]
theorem NKD.next (h : NKD sc sm N n c q) (y : ∀ b, b ≠ 30 → b ≠ 48 → s b = sc b) {j : Nat} (hj : j < c) : g_117 (cp sm q c j) s ∧ f_117 (cp sm q c j) s = s 48 (kd sm q j) ∧ g_121 (cp sm q c j) s ∧ f_121 (cp sm q c j) s = cp sm q c (j + 1) := by
  obtain ⟨a1, a2, a3⟩ := h.at hj
  obtain ⟨h1, h2, h3, -⟩ := h
  obtain ⟨q1, q2, q3, q4, q5, q6, q7, q8, q9, q10, -⟩ := nd117 (s := s) h3 (n := kd sm q j) (by omega) h2 (by rw [y 46 (by decide) (by decide)])
  unfold cp
  rw [if_pos hj]
  refine ⟨q1, q2, q9, ?_⟩
  rw [q10, y 52 (by decide) (by decide), a3]
theorem NKD.cnt (h : NKD sc sm N n c q) (y : ∀ b, b ≠ 30 → b ≠ 48 → s b = sc b) : g_118 (n : Int) s ∧ f_118 (n : Int) s = (c : Int) ∧ g_120 (n : Int) s ∧ f_120 (n : Int) s = cp sm q c 0 := by
  have e := h.first
  obtain ⟨h1, h2, h3, h4, -⟩ := h
  obtain ⟨q1, q2, q3, q4, q5, q6, q7, q8, -⟩ := nd117 (s := s) h3 (n := n) h1 h2 (by rw [y 46 (by decide) (by decide)])
  exact ⟨q5, by rw [q6, y 53 (by decide) (by decide), h4], q7, by rw [q8, y 51 (by decide) (by decide), e]⟩
theorem c22 (h : NKD sc sm N n c q) (hc : c ≤ 8192) (y : ∀ b, b ≠ 30 → b ≠ 48 → s b = sc b) : f_22 (n : Int) s = some (p01 (∀ j, j < c → s 48 (kd sm q j) ≠ 0)) := by
  obtain ⟨k1, k2, k3, k4⟩ := h.cnt y
  have lp : ∀ (r l F : Nat), l + r = c → j_22_11 (F + r + 1) (n : Int) (cp sm q c l) (l : Int) s = some (p01 (∀ j, l ≤ j → j < c → s 48 (kd sm q j) ≠ 0)) := by
    intro r
    induction r with
    | zero =>
      intro l F hl
      rw [j_22_11, gd_pos k1, k2, if_pos (by omega), p01_y (fun j x z => absurd z (by omega))]
    | succ r ih =>
      intro l F hl
      obtain ⟨m1, m2, m3, m4⟩ := h.next y (j := l) (by omega)
      rw [show F + (r + 1) + 1 = (F + r + 1) + 1 by omega, j_22_11, gd_pos k1, k2, if_neg (by omega), gd_pos m1, m2]
      by_cases d : s 48 (kd sm q l) = 0
      · rw [if_neg (fun e => e d), p01_n (fun u => u l (Nat.le_refl _) (by omega) d)]
      · rw [if_pos d, gd_pos m3, m4, w32_nat (by omega), ih (l + 1) F (by omega)]
        congr 1
        exact p01_c ⟨fun u j x z => by
          by_cases e : j = l
          · rw [e]; exact d
          · exact u j (by omega) z, fun u j x z => u j (by omega) z⟩
  unfold f_22
  obtain ⟨F, hF⟩ := FU_split (k := c + 1) (by omega)
  have e0 := lp c 0 F (by omega)
  rw [show F + c + 1 = FU by omega] at e0
  rw [gd_pos k3, k4]
  have e1 : j_22_11 FU (n : Int) (cp sm q c 0) 0 s = _ := e0
  rw [e1]
  congr 1
  exact p01_c ⟨fun u j z => u j (Nat.zero_le _) z, fun u j _ z => u j z⟩
theorem c30 (h : NKD sc sm N n c q) (hc : c ≤ 8192) (y : ∀ b, b ≠ 30 → b ≠ 48 → s b = sc b) (hb : ∀ j, j < c → 1 ≤ s 48 (kd sm q j) ∧ s 48 (kd sm q j) ≤ 32) : f_30 (n : Int) s = some (if osum (fun j => s 48 (kd sm q j)) c ≤ 32 then osum (fun j => s 48 (kd sm q j)) c else 0) := by
  obtain ⟨k1, k2, k3, k4⟩ := h.cnt y
  have lp : ∀ (r l F : Nat), l + r = c → j_30_14 (F + r + 1) (n : Int) (osum (fun j => s 48 (kd sm q j)) l) (cp sm q c l) (l : Int) s = j_30_53 (osum (fun j => s 48 (kd sm q j)) c) s := by
    intro r
    induction r with
    | zero =>
      intro l F hl
      rw [j_30_14, gd_pos k1, k2, if_pos (by omega), show l = c by omega]
    | succ r ih =>
      intro l F hl
      obtain ⟨m1, m2, m3, m4⟩ := h.next y (j := l) (by omega)
      have ob := osum_b (ω := fun j => s 48 (kd sm q j)) l (fun j hj => hb j (by omega))
      have hl2 := hb l (by omega)
      rw [show F + (r + 1) + 1 = (F + r + 1) + 1 by omega, j_30_14, gd_pos k1, k2, if_neg (by omega), gd_pos m1, m2, gd_pos m3, m4, w32_nat (by omega), w32_id (by omega) (by omega)]
      exact ih (l + 1) F (by omega)
  unfold f_30
  obtain ⟨F, hF⟩ := FU_split (k := c + 1) (by omega)
  have e0 := lp c 0 F (by omega)
  rw [show F + c + 1 = FU by omega] at e0
  rw [gd_pos k3, k4]
  have e1 : j_30_14 FU (n : Int) 0 (cp sm q c 0) 0 s = _ := e0
  rw [e1]
  unfold j_30_53
  by_cases d : osum (fun j => s 48 (kd sm q j)) c ≤ 32
  · rw [if_neg (by omega), if_pos d]
  · rw [if_pos (by omega), if_neg d]
theorem c119 (h : NKD sc sm N n c q) (y : ∀ b, b ≠ 30 → b ≠ 48 → s b = sc b) {j : Nat} (hj : j < c) (hj8 : j ≤ 3) : f_119 (n : Int) (j : Int) s = some ((kd sm q j : Nat) : Int) := by
  obtain ⟨k1, k2, k3, k4⟩ := h.cnt y
  have lp : ∀ (r l F : Nat), l + r = j → j_119_9 (F + r + 1) (j : Int) (cp sm q c l) (l : Int) s = some (cp sm q c j) := by
    intro r
    induction r with
    | zero =>
      intro l F hl
      rw [j_119_9, if_pos (by omega), show l = j by omega]
    | succ r ih =>
      intro l F hl
      obtain ⟨m1, m2, m3, m4⟩ := h.next y (j := l) (by omega)
      rw [show F + (r + 1) + 1 = (F + r + 1) + 1 by omega, j_119_9, if_neg (by omega), gd_pos m3, m4, w32_nat (by omega)]
      exact ih (l + 1) F (by omega)
  unfold f_119
  obtain ⟨F, hF⟩ := FU_split (k := j + 1) (by omega)
  have e0 := lp j 0 F (by omega)
  rw [show F + j + 1 = FU by omega] at e0
  rw [gd_pos k3, k4]
  have e1 : j_119_9 FU (j : Int) (cp sm q c 0) 0 s = _ := e0
  rw [e1]
  unfold cp
  rw [if_pos hj]
end WCL
