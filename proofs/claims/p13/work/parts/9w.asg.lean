/-! AN ACTION: an assignment. -/
noncomputable def at3 (l2 : Int) (q7 : Int × Sg) : Option Sg := gd (0 ≤ l2 ∧ l2 < 8200) ((f_231 7 (ax_u2 q7.2 110 l2.toNat q7.1)).bind fun q8 => some q8.2)
noncomputable def at2 (x0 l2 l3 : Int) (m : Sg) : Option Sg := (f_257 x0 l3 (ax_u2 m 111 l2.toNat (m 84 18))).bind fun q7 => at3 l2 q7
noncomputable def cs2 (l1 l2 l3 : Int) (q4 : Sg) : Option (Sum (Sg) (Nat × Sg)) := gd (g_106 l2 q4) (if f_106 l2 q4 = 0 then ((f_37 l1 l3 (q4 66 8) q4).bind fun q5 => some (.inl q5)) else (gd (g_80 l1 q4) (gd (g_71 7 (f_80 l1 q4) q4) ((some (f_71 7 (f_80 l1 q4) q4)).bind fun q6 => some (.inl q6)))))
noncomputable def cs1 (l1 l2 l3 : Int) (q3 : Sg) : Option (Sum (Sg) (Nat × Sg)) := xb (f_92 59 q3) fun q4 => cs2 l1 l2 l3 q4
section ASG
variable {T : TT} {sc0 sm0 sc sm sc' sm' sc1 sm1 m : Sg} {a a1 a' S P A N N' K K' C C' B B' D D' np w : Nat}
theorem at_eq (x0 l2 l3 : Int) (s : Sg) : j_259_257 x0 l2 l3 s = (f_231 10 s).bind fun q6 => gd (0 ≤ l2 ∧ l2 < 8200) (at2 x0 l2 l3 q6.2) := rfl
theorem cs_eq (l1 l2 l3 : Int) (s : Sg) : j_147_67 l1 l2 l3 s = xb (f_92 61 s) fun q2 => xb (f_45 100 (ax_w32 ((q2 70 9) - 1)) q2) fun q3 => cs1 l1 l2 l3 q3 := rfl
theorem fat3 {v : Int} (hA : A < 8200) (hf : 0 < m 84 6) : at3 (A : Int) (v, m) = some (ax_u2 m 110 A v) ∧ BSm m (ax_u2 m 110 A v) := by
  have e : 0 < (ax_u2 m 110 A v) 84 6 := by rw [u2_row _ _ _ (by decide)]; exact hf
  refine ⟨?_, ro_sf (by decide), e⟩
  unfold at3
  rw [gd_pos (by omega), Int.toNat_natCast]
  show ((f_231 7 (ax_u2 m 110 A v)).bind fun q8 => some q8.2) = _
  rw [takeF e, Option.bind_some]
theorem fat2 {d : Int} (hA : A < 8200) (hf : 0 < m 84 6) : ∃ m' : Sg, at2 (S : Int) (A : Int) d m = some m' ∧ BSm m m' := by
  have e : 0 < (ax_u2 m 111 A (m 84 18)) 84 6 := by rw [u2_row _ _ _ (by decide)]; exact hf
  obtain ⟨m', h1, h2⟩ := fl257 e (S : Int) d
  obtain ⟨h3, h4⟩ := fat3 (v := 0) hA h2.2
  refine ⟨_, ?_, ((ro_sf (by decide)).trans h2.1).trans h4.1, h4.2⟩
  unfold at2
  rw [Int.toNat_natCast, h1, Option.bind_some, h3]
theorem fat1 {d : Int} (hA : A < 8200) (hf : 0 < m 84 6) : ∃ m' : Sg, j_259_257 (S : Int) (A : Int) d m = some m' ∧ BSm m m' := by
  obtain ⟨m', h1, h2⟩ := fat2 (S := S) (d := d) hA hf
  refine ⟨m', ?_, h2⟩
  rw [at_eq, takeF hf, Option.bind_some, gd_pos (by omega)]
  exact h1
theorem PIA.expr (hT : TWF T) (hp : POS T) (h : PIA T sc0 sm0 sc sm a S P A N K C B D np w) (ht : T.tk (a - 1) ∈ opA) :
    (∃ (sc' sm' : Sg) (a' N' K' : Nat), f_45 100 ((D - 1 : Nat) : Int) sc = some (.inl sc') ∧ f_257 (S : Int) ((D - 1 : Nat) : Int) sm = some ((N' : Int) - 1, sm') ∧ TPOST T sc sm (S : Int) a N K sc' sm' a' N' K' ∧ PIA T sc0 sm0 sc' sm' a' S P A N' K' C B D np w) ∨
    (∃ (sc' mF : Sg) (a' : Nat), f_45 100 ((D - 1 : Nat) : Int) sc = some (.inl sc') ∧ SFc sc sc' ∧ sc' 70 9 = sc 70 9 ∧ sc' 61 4 = sc 61 4 ∧ sc' 31 8 = sc 31 8 ∧ CU T sc' a' ∧ (T.tk a' = 60 ∨ T.tk a' = 128 ∨ T.tk a' = 129) ∧ f_257 (S : Int) ((D - 1 : Nat) : Int) sm = some (0, mF) ∧ BSm sm mF) ∨
    (∃ (x : Nat) (sc' mF : Sg), f_45 100 ((D - 1 : Nat) : Int) sc = some (.inr (x, sc')) ∧ (x = 14 ∨ x = 15) ∧ BSc T sc sc' ∧ f_257 (S : Int) ((D - 1 : Nat) : Int) sm = some (0, mF) ∧ BSm sm mF) := by
  have hr := h.2.1.rep
  have d8 := h.2.1.2.2.2.1
  rcases h.1.expr (d := D - 1) hT hp (s := S) (by omega) ⟨rfl, h.2.2.1.2.2.2.2.1⟩ hr (fun cn => (h.2.1.2.2.2.2.2.2.2.2.2.2.2 cn).1) ht (by omega) with ⟨sc', sm', a', N', K', x1, x2, x3, x4⟩ | ⟨sc', mF, a', x1, x2, x3, x4, x5, x6, x7⟩ | ⟨x, sc', mF, x1, x2, x3, x4, x5, x6⟩
  · exact Or.inl ⟨sc', sm', a', N', K', x1, x2, x3, h.post hT hp ht x3⟩
  · exact Or.inr (Or.inl ⟨sc', mF, a', x1, x2.sf, by rw [x2.1 70 (by decide)], by rw [x2.1 61 (by decide)], by rw [x2.1 31 (by decide)], x3, x4, x5, x6.sf, x7⟩)
  · exact Or.inr (Or.inr ⟨x, sc', mF, x1, x2, ⟨x3.1.sf, x3.2⟩, x4, x5.sf, x6⟩)
theorem PIA.dw (h : PIA T sc0 sm0 sc sm a S P A N K C B D np w) : ax_w32 (sc 70 9 - 1) = ((D - 1 : Nat) : Int) := by
  have h1 := h.2.1.2.2.1
  have h2 := h.2.1.2.2.2.1
  rw [h.2.1.1, w32_id (by omega) (by omega)]
  omega
theorem asg_tail (hT : TWF T) (hp : POS T) (h : PIA T sc0 sm0 sc sm a S P A N K C B D np w) {a0 : Nat} {l3 : Int} (ha0 : a0 < a) (t0 : T.tk a0 = 1) (h106 : sm 106 A = 0) (h107 : sm 107 A = (a0 : Int)) (h109 : sm 109 A = l3) (hl : l3 = -1 ∨ ∃ n : Nat, l3 = (n : Int) ∧ n < N) (hC : 4 * (C : Int) ≤ T.fm a0) (hA : A ≤ a0) (hpv : T.tk (a - 1) = 1 ∨ T.tk (a - 1) = 93) : AOUT T sc0 sm0 sc sm a S P np w (j_147_67 (a0 : Int) (T.vl a0) l3 sc) (j_259_257 (S : Int) (A : Int) ((D - 1 : Nat) : Int) sm) := by
  obtain ⟨e1, e2, e3, e4, e5, -⟩ := id h.1
  have hz := e3.2.2
  have h8 := hT.1
  have hA8 : A < 8200 := by omega
  rw [cs_eq, at_eq]
  by_cases t1 : T.tk a = 61
  rotate_left
  · right
    have f1 : 0 < (tel sm 2 a) 84 6 := by rw [tel_at]; decide
    obtain ⟨mF, k1, k2⟩ := fat2 (S := S) (d := ((D - 1 : Nat) : Int)) hA8 f1
    refine ⟨15, sc, mF, by rw [c92n e3 t1, xb_err], Or.inr rfl, ⟨SFc.refl _, _, e3⟩, ?_, tel_sf.trans k2.1, k2.2⟩
    rw [takeN e2 hT e5 e4 hz (k := 61) (by decide) (by decide) t1, Option.bind_some, gd_pos (by omega)]
    exact k1
  have z0 := hT.lt hz (by rw [t1]; decide)
  have h1 := (h.tok hp z0 (Or.inr (Or.inr (Or.inl (by rw [t1]; rcases hpv with x | x <;> rw [x] <;> decide)))) (by rw [t1]; decide) (by rw [t1]; decide) (by rw [t1]; decide)).row (c := 111) (v := ((a + 1 : Nat) : Int)) hp (by decide)
  rw [c92y hT e1 e3 t1 (by decide), xb_inl, takeY e2 hT e5 e4 hz (k := 61) (by decide) t1, Option.bind_some, gd_pos (by omega)]
  have ra : at2 (S : Int) (A : Int) ((D - 1 : Nat) : Int) (adv sm (a + 1)) = (f_257 (S : Int) ((D - 1 : Nat) : Int) (ax_u2 (adv sm (a + 1)) 111 A ((a + 1 : Nat) : Int))).bind fun q7 => at3 (A : Int) q7 := by
    unfold at2
    rw [Int.toNat_natCast, adv_at]
  show AOUT T sc0 sm0 sc sm a S P np w (xb (f_45 100 (ax_w32 ((cur T sc (a + 1)) 70 9 - 1)) (cur T sc (a + 1))) fun q3 => cs1 (a0 : Int) (T.vl a0) l3 q3) (at2 (S : Int) (A : Int) ((D - 1 : Nat) : Int) (adv sm (a + 1)))
  rw [ra, h1.dw]
  obtain ⟨sc1, hsc1⟩ : ∃ s : Sg, s = cur T sc (a + 1) := ⟨_, rfl⟩
  obtain ⟨m1, hm1⟩ : ∃ s : Sg, s = ax_u2 (adv sm (a + 1)) 111 A ((a + 1 : Nat) : Int) := ⟨_, rfl⟩
  have sf1 : SFc sc sc1 := by rw [hsc1]; exact cur_sf
  have sg1 : SFm sm m1 := by rw [hm1]; exact adv_sf.trans (ro_sf (by decide))
  have e106 : m1 106 A = 0 := by rw [hm1, u2_row _ _ _ (by decide), adv_row (by decide)]; exact h106
  have e107 : m1 107 A = (a0 : Int) := by rw [hm1, u2_row _ _ _ (by decide), adv_row (by decide)]; exact h107
  have e109 : m1 109 A = l3 := by rw [hm1, u2_row _ _ _ (by decide), adv_row (by decide)]; exact h109
  rw [← hsc1, ← hm1] at h1
  rw [← hsc1, ← hm1]
  rcases h1.expr hT hp (by rw [show a + 1 - 1 = a by omega, t1]; decide) with ⟨sc', sm', a', N', K', x1, x2, x3, x4⟩ | ⟨sc', mF, a', x1, x2, -, -, -, x3, x4, x5, x6⟩ | ⟨x, sc', mF, x1, x2, x3, x4, x5⟩
  rotate_left
  · right
    obtain ⟨y1, y2⟩ := fat3 (A := A) (v := 0) hA8 x6.2
    refine ⟨15, sc', _, ?_, Or.inr rfl, ⟨sf1.trans x2, _, x3⟩, by rw [x5, Option.bind_some]; exact y1, (sg1.trans x6.1).trans y2.1, y2.2⟩
    rw [x1, xb_inl]
    unfold cs1
    rw [c92n x3 (by rcases x4 with y | y | y <;> rw [y] <;> decide), xb_err]
  · right
    obtain ⟨y1, y2⟩ := fat3 (A := A) (v := 0) hA8 x5.2
    exact ⟨x, sc', _, by rw [x1, xb_err], x2, ⟨sf1.trans x3.1, x3.2⟩, by rw [x4, Option.bind_some]; exact y1, (sg1.trans x5.1).trans y2.1, y2.2⟩
  rw [x1, xb_inl, x2, Option.bind_some]
  obtain ⟨i1, i2, i3, i4, i5, -⟩ := id x4.1
  obtain ⟨p1, p2, p3, p4, p5, p6, p7, p8, p9, p10, p11, p12, p13, p14, p15, p16, p17, p18, p19, p20, p21⟩ := id x3
  have sg2 : SFm m1 sm' := p11.sf
  have sf2 : SFc sc1 sc' := p10.sf
  have hz' := i3.2.2
  obtain ⟨m2, hm2⟩ : ∃ s : Sg, s = ax_u2 sm' 110 A ((N' : Int) - 1) := ⟨_, rfl⟩
  have ra3 : at3 (A : Int) ((N' : Int) - 1, sm') = (f_231 7 m2).bind fun q8 => some q8.2 := by
    unfold at3
    rw [gd_pos (by omega), Int.toNat_natCast, hm2]
  rw [ra3]
  have h2 := x4.row (c := 110) (v := (N' : Int) - 1) hp (by decide)
  rw [← hm2] at h2
  obtain ⟨j1, j2, j3, j4, j5, -⟩ := id h2.1
  have sg3 : SFm sm' m2 := by rw [hm2]; exact ro_sf (by decide)
  unfold cs1
  by_cases t2 : T.tk a' = 59
  rotate_left
  · right
    refine ⟨15, sc', tel m2 2 a', by rw [c92n i3 t2, xb_err], Or.inr rfl, ⟨sf1.trans sf2, _, i3⟩, ?_, ((sg1.trans sg2).trans sg3).trans tel_sf, by rw [tel_at]; decide⟩
    rw [takeN j2 hT j5 j4 hz' (k := 59) (by decide) (by decide) t2, Option.bind_some]
  have z2 := hT.lt hz' (by rw [t2]; decide)
  have h3 := h2.tok hp z2 (Or.inr (Or.inl ⟨p21, Or.inl t2⟩)) (by rw [t2]; decide) (by rw [t2]; decide) (by rw [t2]; decide)
  rw [c92y hT i1 i3 t2 (by decide), xb_inl, takeY j2 hT j5 j4 hz' (k := 59) (by decide) t2, Option.bind_some]
  show AOUT T sc0 sm0 sc sm a S P np w (cs2 (a0 : Int) (T.vl a0) l3 (cur T sc' (a' + 1))) (some (adv m2 (a' + 1)))
  obtain ⟨sq, hsq⟩ : ∃ s : Sg, s = cur T sc' (a' + 1) := ⟨_, rfl⟩
  obtain ⟨mq, hmq⟩ : ∃ s : Sg, s = adv m2 (a' + 1) := ⟨_, rfl⟩
  have g106 : mq 106 A = 0 := by rw [hmq, adv_row (by decide), hm2, u2_row _ _ _ (by decide), p11.1 106 (by decide)]; exact e106
  have g107 : mq 107 A = (a0 : Int) := by rw [hmq, adv_row (by decide), hm2, u2_row _ _ _ (by decide), p11.1 107 (by decide)]; exact e107
  have g109 : mq 109 A = l3 := by rw [hmq, adv_row (by decide), hm2, u2_row _ _ _ (by decide), p11.1 109 (by decide)]; exact e109
  have g110 : mq 110 A = (N' : Int) - 1 := by rw [hmq, adv_row (by decide), hm2]; exact u2_same _ _ _ _
  have g66 : sq 66 8 = (N' : Int) - 1 := by rw [hsq, cur_row (by decide)]; exact p15
  rw [← hsq, ← hmq] at h3
  rw [← hsq, ← hmq]
  obtain ⟨e1, e2, e3, e4, e5, e6, e7, e8, e9, e10, e11, e12, e13, e14, e15, e16, e17, e18, e19, e20, e21, e22, e23, e24, e25, e26, e27, e28, e29, e30, e31⟩ := id h3.1
  obtain ⟨-, -, c1, c2, -⟩ := c109 hT e1 (x := a0) (by omega) t0
  have v1 := hT.2.2.2.2.1 a0 (by omega)
  have v2 := hT.2.2.2.2.2.1 a0 (by omega) t0
  have vi : (((T.vl a0).toNat : Nat) : Int) = T.vl a0 := by omega
  have pz := hp.add (k := a0) (a' + 1 - a0) (by omega)
  rw [show a0 + (a' + 1 - a0) = a' + 1 by omega] at pz
  have qz := hp.add (k := a' + 1) (T.z - (a' + 1)) (by omega)
  rw [show a' + 1 + (T.z - (a' + 1)) = T.z by omega] at qz
  have p8' := hp.2.2.2
  have ow : CN sq → (sq 37 (T.vl a0).toNat ≠ 0 ↔ OWN T mq S (mq 84 46) (T.vl a0)) := fun cn => by
    have := (h3.2.1.2.2.2.2.2.2.2.2.2.2.2 cn).1.own (i := (T.vl a0).toNat) (IDN.at hT (x := a0) (by omega) t0)
    rw [vi] at this
    exact this
  have gac : GAC T mq A ↔ ¬ OWN T mq S (mq 84 46) (T.vl a0) := by
    unfold GAC
    rw [g106, g107, h3.2.2.2.1, h3.2.2.2.2, Int.toNat_natCast, Int.toNat_natCast]
    exact ⟨fun y => y.2.2 rfl, fun y => ⟨fun z => absurd z (by decide), fun z => absurd z (by decide), fun _ => y⟩⟩
  have ak : AKD T mq N' A := by
    refine Or.inl ⟨g106, ⟨a0, g107, by omega, t0⟩, ?_, ⟨N' - 1, by rw [g110]; omega, by omega⟩⟩
    rw [g109]
    rcases hl with y | ⟨n, y1, y2⟩
    · exact Or.inl y
    · exact Or.inr ⟨n, y1, by omega⟩
  have tl : T.tk (a' + 1 - 1) = 59 := by rw [show a' + 1 - 1 = a' by omega]; exact t2
  left
  unfold cs2
  rw [gd_pos c1, c2]
  by_cases l0 : sq 37 (T.vl a0).toNat = 0
  · rw [if_pos l0]
    obtain ⟨c3, c4⟩ := c42 (C := C) e13 (by omega) (a0 : Int) l3 (sq 66 8) 0
    obtain ⟨sF, hsF⟩ : ∃ s : Sg, s = ax_u2 (ax_u2 (ax_u2 (ax_u2 (ax_u2 sq 62 C (a0 : Int)) 63 C l3) 64 C (sq 66 8)) 65 C 0) 61 4 ((C + 1 : Nat) : Int) := ⟨_, rfl⟩
    have rF : ∀ c, ¬ (61 ≤ c ∧ c ≤ 65) → sF c = sq c := fun c x => by rw [hsF, u2_row _ _ _ (by omega), u2_row _ _ _ (by omega), u2_row _ _ _ (by omega), u2_row _ _ _ (by omega), u2_row _ _ _ (by omega)]
    have v62 : sF 62 C = (a0 : Int) ∧ sF 63 C = l3 ∧ sF 64 C = sq 66 8 ∧ sF 65 C = 0 ∧ sF 61 4 = ((C + 1 : Nat) : Int) := by
      rw [hsF]
      simp [ax_u2]
    have cF : CN sF ↔ CN sq := by unfold CN; rw [rF 30 (by decide)]
    have cl : sF 62 C = mq 107 A ∧ sF 63 C = mq 109 A ∧ sF 64 C = mq 110 A ∧ sF 65 C = 0 := by
      rw [v62.1, v62.2.1, v62.2.2.1, v62.2.2.2.1, g107, g109, g110, g66]
      exact ⟨rfl, rfl, rfl, rfl⟩
    refine ⟨sF, mq, a' + 1, A + 1, N', K', C + 1, B, D, ?_, rfl, by omega, ?_⟩
    · unfold f_37
      rw [gd_pos c3, c4, Option.bind_some, Option.bind_some, hsF]
    · refine h3.fin hp (fun c x => rF c (by omega)) (fun j _ _ => by rw [rF 39 (by decide)]) (fun j _ => by rw [rF 30 (by decide)]) v62.2.2.2.2 (fun c j x y z => ?_) ⟨by rw [rF 39 (by decide)]; exact e3.1, by rw [rF 39 (by decide)]; exact e3.2.1, e3.2.2⟩ (fun _ _ => rfl) (fun _ _ _ _ _ => rfl) (fun _ _ => rfl) e4 (by omega) (fun c x y => ?_) (fun _ _ => ⟨C, by omega, cl⟩) (by rw [g106]; decide) ak ?_ (Nat.le_refl _) (by omega) (fun k x y => absurd y (by omega)) (by omega) tl
      · have : j ≠ C := by omega
        have n1 : c ≠ 61 := by omega
        rw [hsF]
        simp [ax_u2, this, n1]
      · rw [show c = C by omega]
        exact Or.inl ⟨A, by omega, g106, cl⟩
      · rw [cF, gac]
        exact ⟨fun y => ⟨y, fun z => (ow y).mpr z l0⟩, fun y => y.1⟩
  · rw [if_neg l0]
    obtain ⟨c3, c4⟩ := c80 (a := a0) e1 hT (by omega)
    have f0 := hT.2.2.2.1 a0 (by omega)
    obtain ⟨c5, c6, c7, c8⟩ := c71 (s := sq) (x := 7) (p := T.fm a0) (by decide) f0
    refine ⟨f_71 7 (T.fm a0) sq, mq, a' + 1, A + 1, N', K', C, B, D, ?_, rfl, by omega, ?_⟩
    · rw [gd_pos c4, c3, gd_pos c5, Option.bind_some]
    · refine h3.fin hp (fun c x => c7 c (by omega)) (fun j _ _ => by rw [c7 39 (by decide)]) c8 (by rw [c7 61 (by decide)]; exact e13) (fun c j x y z => by rw [c7 c (by omega)]) ⟨by rw [c7 39 (by decide)]; exact e3.1, by rw [c7 39 (by decide)]; exact e3.2.1, e3.2.2⟩ (fun _ _ => rfl) (fun _ _ _ _ _ => rfl) (fun _ _ => rfl) e4 (Nat.le_refl _) (fun c x y => absurd y (by omega)) (fun cn _ => absurd cn c6) (by rw [g106]; decide) ak ?_ (Nat.le_refl _) (by omega) (fun k x y => absurd y (by omega)) e21 tl
      rw [gac]
      exact ⟨fun y => absurd y c6, fun y => absurd ((ow y.1).mp l0) y.2⟩
end ASG
