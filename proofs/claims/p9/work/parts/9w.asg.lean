/-! AN ACTION: an assignment. -/
noncomputable def at3 (l2 : Int) (q7 : Int × Sg) : Option Sg := gd (0 ≤ l2 ∧ l2 < 8200) ((f_231 7 (ax_u2 q7.2 110 l2.toNat q7.1)).bind fun q8 => some q8.2)
noncomputable def at2 (x0 l2 l3 : Int) (m : Sg) : Option Sg := (f_257 x0 l3 (ax_u2 m 111 l2.toNat (m 84 18))).bind fun q7 => at3 l2 q7
noncomputable def cs2 (l1 l2 l3 : Int) (q4 : Sg) : Option (Sum (Sg) (Nat × Sg)) := gd (g_106 l2 q4) (if f_106 l2 q4 = 0 then ((f_37 l1 l3 (q4 66 8) q4).bind fun q5 => some (.inl q5)) else (gd (g_80 l1 q4) (gd (g_71 7 (f_80 l1 q4) q4) ((some (f_71 7 (f_80 l1 q4) q4)).bind fun q6 => some (.inl q6)))))
noncomputable def cs1 (l1 l2 l3 : Int) (q3 : Sg) : Option (Sum (Sg) (Nat × Sg)) := xb (f_92 59 q3) fun q4 => cs2 l1 l2 l3 q4
section ASG
variable {T : TT} {sc0 sm0 sc sm sc' sm' sc1 sm1 m : Sg} {a a1 a' S P A N N' K K' C C' B B' D D' np w : Nat}
theorem at_eq (x0 l2 l3 : Int) (s : Sg) : j_259_257 x0 l2 l3 s = (f_231 10 s).bind fun q6 => gd (0 ≤ l2 ∧ l2 < 8200) (at2 x0 l2 l3 q6.2) := rfl
theorem cs_eq (l1 l2 l3 : Int) (s : Sg) : j_147_67 l1 l2 l3 s = xb (f_92 61 s) fun q2 => xb (f_45 100 (ax_w32 ((q2 70 9) - 1)) q2) fun q3 => cs1 l1 l2 l3 q3 := rfl
theorem fat3 {v : Int} (hA : A < 8200) (hf : 0 < m 84 6) : at3 (A : Int) (v, m) = some (ax_u2 m 110 A v) ∧ BSm m (ax_u2 m 110 A v) := by
  have e : 0 < (ax_u2 m 110 A v) 84 6 := by rw [u2_row _ _ _ (by decide)]; exact hf
  refine ⟨?_, ro_sf (by decide), e⟩
  unfold at3
  rw [gd_pos (by omega), Int.toNat_natCast]
  show ((f_231 7 (ax_u2 m 110 A v)).bind fun q8 => some q8.2) = _
  rw [takeF e, Option.bind_some]
theorem fat2 {d : Int} (hA : A < 8200) (hf : 0 < m 84 6) : ∃ m' : Sg, at2 (S : Int) (A : Int) d m = some m' ∧ BSm m m' := by
  have e : 0 < (ax_u2 m 111 A (m 84 18)) 84 6 := by rw [u2_row _ _ _ (by decide)]; exact hf
  obtain ⟨m', h1, h2⟩ := fl257 e (S : Int) d
  obtain ⟨h3, h4⟩ := fat3 (v := 0) hA h2.2
  refine ⟨_, ?_, ((ro_sf (by decide)).trans h2.1).trans h4.1, h4.2⟩
  unfold at2
  rw [Int.toNat_natCast, h1, Option.bind_some, h3]
theorem fat1 {d : Int} (hA : A < 8200) (hf : 0 < m 84 6) : ∃ m' : Sg, j_259_257 (S : Int) (A : Int) d m = some m' ∧ BSm m m' := by
  obtain ⟨m', h1, h2⟩ := fat2 (S := S) (d := d) hA hf
  refine ⟨m', ?_, h2⟩
  rw [at_eq, takeF hf, Option.bind_some, gd_pos (by omega)]
  exact h1
theorem PIA.expr (hT : TWF T) (hp : POS T) (h : PIA T sc0 sm0 sc sm a S P A N K C B D np w) (ht : T.tk (a - 1) ∈ opA) :
    (∃ (sc' sm' : Sg) (a' N' K' : Nat), f_45 100 ((D - 1 : Nat) : Int) sc = some (.inl sc') ∧ f_257 (S : Int) ((D - 1 : Nat) : Int) sm = some ((N' : Int) - 1, sm') ∧ TPOST T sc sm (S : Int) a N K sc' sm' a' N' K' ∧ PIA T sc0 sm0 sc' sm' a' S P A N' K' C B D np w) ∨
    (∃ (sc' mF : Sg) (a' : Nat), f_45 100 ((D - 1 : Nat) : Int) sc = some (.inl sc') ∧ SFc sc sc' ∧ sc' 70 9 = sc 70 9 ∧ sc' 61 4 = sc 61 4 ∧ sc' 31 8 = sc 31 8 ∧ CU T sc' a' ∧ (T.tk a' = 60 ∨ T.tk a' = 128 ∨ T.tk a' = 129) ∧ f_257 (S : Int) ((D - 1 : Nat) : Int) sm = some (0, mF) ∧ BSm sm mF) ∨
    (∃ (x : Nat) (sc' mF : Sg), f_45 100 ((D - 1 : Nat) : Int) sc = some (.inr (x, sc')) ∧ (x = 14 ∨ x = 15) ∧ BSc T sc sc' ∧ f_257 (S : Int) ((D - 1 : Nat) : Int) sm = some (0, mF) ∧ BSm sm mF) := by
  have hr := h.2.1.rep
  have d8 := h.2.1.2.2.2.1
  rcases h.1.expr (d := D - 1) hT hp (s := S) (by omega) ⟨rfl, h.2.2.1.2.2.2.2.1⟩ hr (fun cn => (h.2.1.2.2.2.2.2.2.2.2.2.2.2 cn).1) ht (by omega) with ⟨sc', sm', a', N', K', x1, x2, x3, x4⟩ | ⟨sc', mF, a', x1, x2, x3, x4, x5, x6, x7⟩ | ⟨x, sc', mF, x1, x2, x3, x4, x5, x6⟩
  · exact Or.inl ⟨sc', sm', a', N', K', x1, x2, x3, h.post hT hp ht x3⟩
  · exact Or.inr (Or.inl ⟨sc', mF, a', x1, x2.sf, by rw [x2.1 70 (by decide)], by rw [x2.1 61 (by decide)], by rw [x2.1 31 (by decide)], x3, x4, x5, x6.sf, x7⟩)
  · exact Or.inr (Or.inr ⟨x, sc', mF, x1, x2, ⟨x3.1.sf, x3.2⟩, x4, x5.sf, x6⟩)
theorem PIA.dw (h : PIA T sc0 sm0 sc sm a S P A N K C B D np w) : ax_w32 (sc 70 9 - 1) = ((D - 1 : Nat) : Int) := by
  have h1 := h.2.1.2.2.1
  have h2 := h.2.1.2.2.2.1
  rw [h.2.1.1, w32_id (by omega) (by omega)]
  omega
theorem asg_tail (hT : TWF T) (hp : POS T) (h : PIA T sc0 sm0 sc sm a S P A N K C B D np w) {a0 : Nat} {l3 : Int} (ha0 : a0 < a) (t0 : T.tk a0 = 1) (h106 : sm 106 A = 0) (h107 : sm 107 A = (a0 : Int)) (h109 : sm 109 A = l3) (hl : l3 = -1 ∨ ∃ n : Nat, l3 = (n : Int) ∧ n < N) (hC : 4 * (C : Int) ≤ T.fm a0) (hA : A ≤ a0) (hpv : T.tk (a - 1) = 1 ∨ T.tk (a - 1) = 93) : AOUT T sc0 sm0 sc sm a S P np w (j_147_67 (a0 : Int) (T.vl a0) l3 sc) (j_259_257 (S : Int) (A : Int) ((D - 1 : Nat) : Int) sm) := by
  obtain ⟨e1, e2, e3, e4, e5, -⟩ := id h.1
  have hz := e3.2.2
  have h8 := hT.1
  have hA8 : A < 8200 := by omega
  rw [cs_eq, at_eq]
  by_cases t1 : T.tk a = 61
  rotate_left
  · right
    have f1 : 0 < (tel sm 2 a) 84 6 := by rw [tel_at]; decide
    obtain ⟨mF, k1, k2⟩ := fat2 (S := S) (d := ((D - 1 : Nat) : Int)) hA8 f1
    refine ⟨15, sc, mF, by rw [c92n e3 t1, xb_err], Or.inr rfl, ⟨SFc.refl _, _, e3⟩, ?_, tel_sf.trans k2.1, k2.2⟩
    rw [takeN e2 hT e5 e4 hz (k := 61) (by decide) (by decide) t1, Option.bind_some, gd_pos (by omega)]
    exact k1
  have z0 := hT.lt hz (by rw [t1]; decide)
  have h1 := (h.tok hp z0 (Or.inr (Or.inr (Or.inl (by rw [t1]; rcases hpv with x | x <;> rw [x] <;> decide)))) (by rw [t1]; decide) (by rw [t1]; decide) (by rw [t1]; decide)).row (c := 111) (v := ((a + 1 : Nat) : Int)) hp (by decide)
  rw [c92y hT e1 e3 t1 (by decide), xb_inl, takeY e2 hT e5 e4 hz (k := 61) (by decide) t1, Option.bind_some, gd_pos (by omega)]
  have ra : at2 (S : Int) (A : Int) ((D - 1 : Nat) : Int) (adv sm (a + 1)) = (f_257 (S : Int) ((D - 1 : Nat) : Int) (ax_u2 (adv sm (a + 1)) 111 A ((a + 1 : Nat) : Int))).bind fun q7 => at3 (A : Int) q7 := by
    unfold at2
    rw [Int.toNat_natCast, adv_at]
  show AOUT T sc0 sm0 sc sm a S P np w (xb (f_45 100 (ax_w32 ((cur T sc (a + 1)) 70 9 - 1)) (cur T sc (a + 1))) fun q3 => cs1 (a0 : Int) (T.vl a0) l3 q3) (at2 (S : Int) (A : Int) ((D - 1 : Nat) : Int) (adv sm (a + 1)))
  rw [ra, h1.dw]
  obtain ⟨sc1, hsc1⟩ : ∃ s : Sg, s = cur T sc (a + 1) := ⟨_, rfl⟩
  obtain ⟨m1, hm1⟩ : ∃ s : Sg, s = ax_u2 (adv sm (a + 1)) 111 A ((a + 1 : Nat) : Int) := ⟨_, rfl⟩
  have sf1 : SFc sc sc1 := by rw [hsc1]; exact cur_sf
  have sg1 : SFm sm m1 := by rw [hm1]; exact adv_sf.trans (ro_sf (by decide))
  have e106 : m1 106 A = 0 := by rw [hm1, u2_row _ _ _ (by decide), adv_row (by decide)]; exact h106
  have e107 : m1 107 A = (a0 : Int) := by rw [hm1, u2_row _ _ _ (by decide), adv_row (by decide)]; exact h107
  have e109 : m1 109 A = l3 := by rw [hm1, u2_row _ _ _ (by decide), adv_row (by decide)]; exact h109
  rw [← hsc1, ← hm1] at h1
  rw [← hsc1, ← hm1]
  rcases h1.expr hT hp (by rw [show a + 1 - 1 = a by omega, t1]; decide) with ⟨sc', sm', a', N', K', x1, x2, x3, x4⟩ | ⟨sc', mF, a', x1, x2, -, -, -, x3, x4, x5, x6⟩ | ⟨x, sc', mF, x1, x2, x3, x4, x5⟩
  rotate_left
  · right
    obtain ⟨y1, y2⟩ := fat3 (A := A) (v := 0) hA8 x6.2
    refine ⟨15, sc', _, ?_, Or.inr rfl, ⟨sf1.trans x2, _, x3⟩, by rw [x5, Option.bind_some]; exact y1, (sg1.trans x6.1).trans y2.1, y2.2⟩
    rw [x1, xb_inl]
    unfold cs1
    rw [c92n x3 (by rcases x4 with y | y | y <;> rw [y] <;> decide), xb_err]
  · right
    obtain ⟨y1, y2⟩ := fat3 (A := A) (v := 0) hA8 x5.2
    exact ⟨x, sc', _, by rw [x1, xb_err], x2, ⟨sf1.trans x3.1, x3.2⟩, by rw [x4, Option.bind_some]; exact y1, (sg1.trans x5.1).trans y2.1, y2.2⟩
  rw [x1, xb_inl, x2, Option.bind_some]
  obtain ⟨i1, i2, i3, i4, i5, -⟩ := id x4.1
  obtain ⟨p1, p2, p3, p4, p5, p6, p7, p8, p9, p10, p11, p12, p13, p14, p15, p16, p17, p18, p19, p20, p21⟩ := id x3
  have sg2 : SFm m1 sm' := p11.sf
  have sf2 : SFc sc1 sc' := p10.sf
  have hz' := i3.2.2
  obtain ⟨m2, hm2⟩ : ∃ s : Sg, s = ax_u2 sm' 110 A ((N' : Int) - 1) := ⟨_, rfl⟩
  have ra3 : at3 (A : Int) ((N' : Int) - 1, sm') = (f_231 7 m2).bind fun q8 => some q8.2 := by
    unfold at3
    rw [gd_pos (by omega), Int.toNat_natCast, hm2]
  rw [ra3]
  have h2 := x4.row (c := 110) (v := (N' : Int) - 1) hp (by decide)
  rw [← hm2] at h2
  obtain ⟨j1, j2, j3, j4, j5, -⟩ := id h2.1
  have sg3 : SFm sm' m2 := by rw [hm2]; exact ro_sf (by decide)
  unfold cs1
  by_cases t2 : T.tk a' = 59
  rotate_left
  · right
    refine ⟨15, sc', tel m2 2 a', by rw [c92n i3 t2, xb_err], Or.inr rfl, ⟨sf1.trans sf2, _, i3⟩, ?_, ((sg1.trans sg2).trans sg3).trans tel_sf, by rw [tel_at]; decide⟩
    rw [takeN j2 hT j5 j4 hz' (k := 59) (by decide) (by decide) t2, Option.bind_some]
  have z2 := hT.lt hz' (by rw [t2]; decide)
  have h3 := h2.tok hp z2 (Or.inr (Or.inl ⟨p21, Or.inl t2⟩)) (by rw [t2]; decide) (by rw [t2]; decide) (by rw [t2]; decide)
  rw [c92y hT i1 i3 t2 (by decide), xb_inl, takeY j2 hT j5 j4 hz' (k := 59) (by decide) t2, Option.bind_some]
  show AOUT T sc0 sm0 sc sm a S P np w (cs2 (a0 : Int) (T.vl a0) l3 (cur T sc' (a' + 1))) (some (adv m2 (a' + 1)))
  obtain ⟨sq, hsq⟩ : ∃ s : Sg, s = cur T sc' (a' + 1) := ⟨_, rfl⟩
  obtain ⟨mq, hmq⟩ : ∃ s : Sg, s = adv m2 (a' + 1) := ⟨_, rfl⟩
  have g106 : mq 106 A = 0 := by rw [hmq, adv_row (by decide), hm2, u2_row _ _ _ (by decide), p11.1 106 (by decide)]; exact e106
  have g107 : mq 107 A = (a0 : Int) := by rw [hmq, adv_row (by decide), hm2, u2_row _ _ _ (by decide), p11.1 107 (by decide)]; exact e107
  have g109 : mq 109 A = l3 := by rw [hmq, adv_row (by decide), hm2, u2_row _ _ _ (by decide), p11.1 109 (by decide)]; exact e109
  have g110 : mq 110 A = (N' : Int) - 1 := by rw [hmq, adv_row (by decide), hm2]; exact u2_same _ _ _ _
  have g66 : sq 66 8 = (N' : Int) - 1 := by rw [hsq, cur_row (by decide)]; exact p15
  rw [← hsq, ← hmq] at h3
  rw [← hsq, ← hmq]
  obtain ⟨e1, e2, e3, e4, e5, e6, e7, e8, e9, e10, e11, e12, e13, e14, e15, e16, e17, e18, e19, e20, e21, e22, e23, e24, e25, e26, e27, e28, e29, e30, e31⟩ := id h3.1
  obtain ⟨-, -, c1, c2, -⟩ := c109 hT e1 (x := a0) (by omega) t0
  have v1 := hT.2.2.2.2.1 a0 (by omega)
  have v2 := hT.2.2.2.2.2.1 a0 (by omega) t0
  have vi : (((T.vl a0).toNat : Nat) : Int) = T.vl a0 := by omega
  have pz := hp.add (k := a0) (a' + 1 - a0) (by omega)
  rw [show a0 + (a' + 1 - a0) = a' + 1 by omega] at pz
  have qz := hp.add (k := a' + 1) (T.z - (a' + 1)) (by omega)
  rw [show a' + 1 + (T.z - (a' + 1)) = T.z by omega] at qz
  have p8' := hp.2.2.2
  have ow : CN sq → (sq 37 (T.vl a0).toNat ≠ 0 ↔ OWN T mq S (mq 84 46) (T.vl a0)) := fun cn => by
    have := (h3.2.1.2.2.2.2.2.2.2.2.2.2.2 cn).1.own (i := (T.vl a0).toNat) (IDN.at hT (x := a0) (by omega) t0)
    rw [vi] at this
    exact this
  have gac : GAC T mq A ↔ ¬ OWN T mq S (mq 84 46) (T.vl a0) := by
    unfold GAC
    rw [g106, g107, h3.2.2.2.1, h3.2.2.2.2, Int.toNat_natCast, Int.toNat_natCast]
    exact ⟨fun y => y.2.2 rfl, fun y => ⟨fun z => absurd z (by decide), fun z => absurd z (by decide), fun _ => y⟩⟩
  have ak : AKD T mq N' A := by
    refine Or.inl ⟨g106, ⟨a0, g107, by omega, t0⟩, ?_, ⟨N' - 1, by rw [g110]; omega, by omega⟩⟩
    rw [g109]
    rcases hl with y | ⟨n, y1, y2⟩
    · exact Or.inl y
    · exact Or.inr ⟨n, y1, by omega⟩
  have tl : T.tk (a' + 1 - 1) = 59 := by rw [show a' + 1 - 1 = a' by omega]; exact t2
  left
  unfold cs2
  rw [gd_pos c1, c2]
  by_cases l0 : sq 37 (T.vl a0).toNat = 0
  · rw [if_pos l0]
    obtain ⟨c3, c4⟩ := c42 (C := C) e13 (by omega) (a0 : Int) l3 (sq 66 8) 0
    obtain ⟨sF, hsF⟩ : ∃ s : Sg, s = ax_u2 (ax_u2 (ax_u2 (ax_u2 (ax_u2 sq 62 C (a0 : Int)) 63 C l3) 64 C (sq 66 8)) 65 C 0) 61 4 ((C + 1 : Nat) : Int) := ⟨_, rfl⟩
    have rF : ∀ c, ¬ (61 ≤ c ∧ c ≤ 65) → sF c = sq c := fun c x => by rw [hsF, u2_row _ _ _ (by omega), u2_row _ _ _ (by omega), u2_row _ _ _ (by omega), u2_row _ _ _ (by omega), u2_row _ _ _ (by omega)]
    have v62 : sF 62 C = (a0 : Int) ∧ sF 63 C = l3 ∧ sF 64 C = sq 66 8 ∧ sF 65 C = 0 ∧ sF 61 4 = ((C + 1 : Nat) : Int) := by
      rw [hsF]
      simp [ax_u2]
    have cF : CN sF ↔ CN sq := by unfold CN; rw [rF 30 (by decide)]
    have cl : sF 62 C = mq 107 A ∧ sF 63 C = mq 109 A ∧ sF 64 C = mq 110 A ∧ sF 65 C = 0 := by
      rw [v62.1, v62.2.1, v62.2.2.1, v62.2.2.2.1, g107, g109, g110, g66]
      exact ⟨rfl, rfl, rfl, rfl⟩
    refine ⟨sF, mq, a' + 1, A + 1, N', K', C + 1, B, D, ?_, rfl, by omega, ?_⟩
    · unfold f_37
      rw [gd_pos c3, c4, Option.bind_some, Option.bind_some, hsF]
    · refine h3.fin hp (fun c x => rF c (by omega)) (fun j _ _ => by rw [rF 39 (by decide)]) (fun j _ => by rw [rF 30 (by decide)]) v62.2.2.2.2 (fun c j x y z => ?_) ⟨by rw [rF 39 (by decide)]; exact e3.1, by rw [rF 39 (by decide)]; exact e3.2.1, e3.2.2⟩ (fun _ _ => rfl) (fun _ _ _ _ _ => rfl) (fun _ _ => rfl) e4 (by omega) (fun c x y => ?_) (fun _ _ => ⟨C, by omega, cl⟩) (by rw [g106]; decide) ak ?_ (Nat.le_refl _) (by omega) (fun k x y => absurd y (by omega)) (by omega) tl
      · have : j ≠ C := by omega
        have n1 : c ≠ 61 := by omega
        rw [hsF]
        simp [ax_u2, this, n1]
      · rw [show c = C by omega]
        exact Or.inl ⟨A, by omega, g106, cl⟩
      · rw [cF, gac]
        exact ⟨fun y => ⟨y, fun z => (ow y).mpr z l0⟩, fun y => y.1⟩
  · rw [if_neg l0]
    obtain ⟨c3, c4⟩ := c80 (a := a0) e1 hT (by omega)
    have f0 := hT.2.2.2.1 a0 (by omega)
    obtain ⟨c5, c6, c7, c8⟩ := c71 (s := sq) (x := 7) (p := T.fm a0) (by decide) f0
    refine ⟨f_71 7 (T.fm a0) sq, mq, a' + 1, A + 1, N', K', C, B, D, ?_, rfl, by omega, ?_⟩
    · rw [gd_pos c4, c3, gd_pos c5, Option.bind_some]
    · refine h3.fin hp (fun c x => c7 c (by omega)) (fun j _ _ => by rw [c7 39 (by decide)]) c8 (by rw [c7 61 (by decide)]; exact e13) (fun c j x y z => by rw [c7 c (by omega)]) ⟨by rw [c7 39 (by decide)]; exact e3.1, by rw [c7 39 (by decide)]; exact e3.2.1, e3.2.2⟩ (fun _ _ => rfl) (fun _ _ _ _ _ => rfl) (fun _ _ => rfl) e4 (Nat.le_refl _) (fun c x y => absurd y (by omega)) (fun cn _ => absurd cn c6) (by rw [g106]; decide) ak ?_ (Nat.le_refl _) (by omega) (fun k x y => absurd y (by omega)) e21 tl
      rw [gac]
      exact ⟨fun y => absurd y c6, fun y => absurd ((ow y.1).mp l0) y.2⟩
end ASG
/-! AN ACTION: an assignment, whole. -/
section ASW
variable {T : TT} {sc0 sm0 sc sm sc' sm' m : Sg} {a a1 a' S P A N N' K K' C C' B B' D D' np w : Nat}
theorem act_asg (hT : TWF T) (hp : POS T) (h : PS1 T sc0 sm0 sc sm a S P A N K C B D np w) (t0 : T.tk a = 1) : AOUT T sc0 sm0 sc sm a S P np w (f_144 sc) (f_259 (S : Int) sm) := by
  obtain ⟨hS, hA, hz, h8, hC8, hB8, h39, r144, r259⟩ := h.sz hT hp
  have hb := h.begin
  have htl := h.2.2.2
  have hAa : A ≤ a := h.1.2.2.2.2.2.2.2.2.2.2.2.2.2.2.2.2.2.2.2.2.2.2.2.1
  have hCa : 4 * (C : Int) ≤ T.fm a := h.1.2.2.2.2.2.2.2.2.2.2.2.2.2.2.2.2.2.2.2.2.1
  obtain ⟨sc1, hsc1⟩ : ∃ s : Sg, s = ACc sc S := ⟨_, rfl⟩
  obtain ⟨m1, hm1⟩ : ∃ s : Sg, s = ACm sm S A := ⟨_, rfl⟩
  have sf1 : SFc sc sc1 := by rw [hsc1]; exact ACc_sf
  have sg1 : SFm sm m1 := by rw [hm1]; exact ACm_sf
  have v109 : m1 109 A = -1 := by rw [hm1]; exact ACm_A.2.2.2.1
  rw [← hsc1, ← hm1] at hb
  rw [← hsc1] at r144
  rw [← hm1] at r259
  rw [r144 (by rw [t0]; decide), r259]
  obtain ⟨e1, e2, e3, e4, e5, -⟩ := id hb.1
  have z0 := hT.lt hz (by rw [t0]; decide)
  rw [if_pos (by rw [e3.2.1, t0])]
  rw [eatN e2 hT e4 hz (k := 21) (by decide) (by decide) (by rw [t0]; decide)]
  have h1 := hb.row (c := 106) (v := 0) hp (by decide)
  obtain ⟨m2, hm2⟩ : ∃ s : Sg, s = ax_u2 m1 106 A 0 := ⟨_, rfl⟩
  have sg2 : SFm m1 m2 := by rw [hm2]; exact ro_sf (by decide)
  rw [← hm2] at h1
  obtain ⟨i1, i2, i3, i4, i5, -⟩ := id h1.1
  have rm : at1 (S : Int) (A : Int) ((D - 1 : Nat) : Int) ((0 : Int), m1) = gd (g_252 15 (ax_u2 (adv m2 (a + 1)) 107 A (a : Int))) ((some (f_252 15 (ax_u2 (adv m2 (a + 1)) 107 A (a : Int)))).bind fun q5 => (if q5.1 = 0 then j_259_257 (S : Int) (A : Int) ((D - 1 : Nat) : Int) q5.2 else ((f_257 (S : Int) ((D - 1 : Nat) : Int) q5.2).bind fun q9 => (gd (0 ≤ (A : Int) ∧ (A : Int) < 8200) ((f_231 16 (ax_u2 q9.2 109 A q9.1)).bind fun q10 => j_259_257 (S : Int) (A : Int) ((D - 1 : Nat) : Int) q10.2))))) := by
    unfold at1
    rw [if_pos rfl, eatN e2 hT e4 hz (k := 23) (by decide) (by decide) (by rw [t0]; decide)]
    rw [if_pos rfl, eatN e2 hT e4 hz (k := 24) (by decide) (by decide) (by rw [t0]; decide)]
    rw [if_pos rfl, gd_pos (by omega), Int.toNat_natCast]
    show ((f_231 1 (ax_u2 m1 106 A 0)).bind _) = _
    rw [← hm2, takeY i2 hT i5 i4 hz (k := 1) (by decide) t0, Option.bind_some, gd_pos (by omega)]
  rw [rm]
  have h2 := (h1.tok hp z0 (Or.inr (Or.inr (Or.inr (Or.inr (Or.inr (Or.inl ⟨by rcases htl with x | x | x <;> simp [x], by simp [t0]⟩)))))) (by rw [t0]; decide) (by rw [t0]; decide) (by rw [t0]; decide)).row (c := 107) (v := (a : Int)) hp (by decide)
  obtain ⟨sc2, hsc2⟩ : ∃ s : Sg, s = cur T sc1 (a + 1) := ⟨_, rfl⟩
  obtain ⟨m3, hm3⟩ : ∃ s : Sg, s = ax_u2 (adv m2 (a + 1)) 107 A (a : Int) := ⟨_, rfl⟩
  have sf2 : SFc sc1 sc2 := by rw [hsc2]; exact cur_sf
  have sg3 : SFm m2 m3 := by rw [hm3]; exact adv_sf.trans (ro_sf (by decide))
  have g106 : m3 106 A = 0 := by rw [hm3, u2_row _ _ _ (by decide), adv_row (by decide), hm2]; exact u2_same _ _ _ _
  have g107 : m3 107 A = (a : Int) := by rw [hm3]; exact u2_same _ _ _ _
  have g109 : m3 109 A = -1 := by rw [hm3, u2_row _ _ _ (by decide), adv_row (by decide), hm2, u2_row _ _ _ (by decide)]; exact v109
  rw [← hsc2, ← hm3] at h2
  rw [← hm3]
  have rc : f_147 sc1 = (if ¬ (sc2 39 11) = 91 then j_147_67 (a : Int) (T.vl a) (-1) sc2 else (gd (g_94 sc2) ((some (f_94 sc2)).bind fun q7 => (xb (f_45 100 (ax_w32 ((q7 70 9) - 1)) q7) fun q8 => (xb (f_92 93 q8) fun q9 => j_147_67 (a : Int) (T.vl a) (q8 66 8) q9))))) := by
    unfold f_147
    rw [c96y hT e1 e3 t0, xb_inl, e3.1, hsc2]
  rw [rc]
  obtain ⟨j1, j2, j3, j4, j5, -⟩ := id h2.1
  by_cases t1 : T.tk (a + 1) = 91
  rotate_left
  · rw [if_pos (by rw [j3.2.1]; exact t1), eatN j2 hT j4 (by omega) (k := 91) (by decide) (by decide) t1]
    show AOUT T sc0 sm0 sc sm a S P np w (j_147_67 (a : Int) (T.vl a) (-1) sc2) (j_259_257 (S : Int) (A : Int) ((D - 1 : Nat) : Int) m3)
    exact (asg_tail hT hp h2 (a0 := a) (by omega) t0 g106 g107 g109 (Or.inl rfl) hCa hAa (Or.inl (by rw [show a + 1 - 1 = a by omega]; exact t0))).mono (sf1.trans sf2) ((sg1.trans sg2).trans sg3) (by omega)
  have z1 := hT.lt (show a + 1 ≤ T.z by omega) (by rw [t1]; decide)
  rw [if_neg (by rw [j3.2.1, t1]; decide), nxt hT j1 j3 (by rw [t1]; decide), eatY j2 hT j5 j4 (by omega) (k := 91) (by decide) t1]
  rw [if_neg (by simp)]
  have h3 := h2.tok hp z1 (Or.inl (by rw [show a + 1 - 1 = a by omega, t0, t1]; exact Or.inr (Or.inr (Or.inl ⟨rfl, Or.inl rfl⟩)))) (by rw [t1]; decide) (by rw [t1]; decide) (by rw [t1]; decide)
  obtain ⟨sc3, hsc3⟩ : ∃ s : Sg, s = cur T sc2 (a + 1 + 1) := ⟨_, rfl⟩
  obtain ⟨m4, hm4⟩ : ∃ s : Sg, s = adv m3 (a + 1 + 1) := ⟨_, rfl⟩
  have sf3 : SFc sc sc3 := by rw [hsc3]; exact (sf1.trans sf2).trans cur_sf
  have sg4 : SFm sm m4 := by rw [hm4]; exact ((sg1.trans sg2).trans sg3).trans adv_sf
  rw [← hsc3, ← hm4] at h3
  rw [← hsc3, ← hm4, h3.dw]
  rcases h3.expr hT hp (by rw [show a + 1 + 1 - 1 = a + 1 by omega, t1]; decide) with ⟨sc', sm', a', N', K', x1, x2, x3, x4⟩ | ⟨sc', mF, a', x1, x2, -, -, -, x3, x4, x5, x6⟩ | ⟨x, sc', mF, x1, x2, x3, x4, x5⟩
  rotate_left
  · right
    have f1 : 0 < (ax_u2 mF 109 A 0) 84 6 := by rw [u2_row _ _ _ (by decide)]; exact x6.2
    obtain ⟨mG, y1, y2⟩ := fat1 (S := S) (A := A) (d := ((D - 1 : Nat) : Int)) hA f1
    refine ⟨15, sc', mG, ?_, Or.inr rfl, ⟨sf3.trans x2, _, x3⟩, ?_, ((sg4.trans x6.1).trans (ro_sf (by decide))).trans y2.1, y2.2⟩
    · rw [x1, xb_inl, c92n x3 (by rcases x4 with y | y | y <;> rw [y] <;> decide), xb_err]
    · rw [x5, Option.bind_some, gd_pos (by omega)]
      show ((f_231 16 (ax_u2 mF 109 A 0)).bind fun q10 => j_259_257 (S : Int) (A : Int) ((D - 1 : Nat) : Int) q10.2) = _
      rw [takeF f1, Option.bind_some]
      exact y1
  · right
    have f1 : 0 < (ax_u2 mF 109 A 0) 84 6 := by rw [u2_row _ _ _ (by decide)]; exact x5.2
    obtain ⟨mG, y1, y2⟩ := fat1 (S := S) (A := A) (d := ((D - 1 : Nat) : Int)) hA f1
    refine ⟨x, sc', mG, by rw [x1, xb_err], x2, ⟨sf3.trans x3.1, x3.2⟩, ?_, ((sg4.trans x5.1).trans (ro_sf (by decide))).trans y2.1, y2.2⟩
    rw [x4, Option.bind_some, gd_pos (by omega)]
    show ((f_231 16 (ax_u2 mF 109 A 0)).bind fun q10 => j_259_257 (S : Int) (A : Int) ((D - 1 : Nat) : Int) q10.2) = _
    rw [takeF f1, Option.bind_some]
    exact y1
  obtain ⟨p1, p2, p3, p4, p5, p6, p7, p8, p9, p10, p11, p12, p13, p14, p15, p16, p17, p18, p19, p20, p21⟩ := id x3
  have hz' := p3.2.2
  have h4 := x4.row (c := 109) (v := (N' : Int) - 1) hp (by decide)
  obtain ⟨m5, hm5⟩ : ∃ s : Sg, s = ax_u2 sm' 109 A ((N' : Int) - 1) := ⟨_, rfl⟩
  have sg5 : SFm sm m5 := by rw [hm5]; exact (sg4.trans p11.sf).trans (ro_sf (by decide))
  have k106 : m5 106 A = 0 := by rw [hm5, u2_row _ _ _ (by decide), p11.1 106 (by decide), hm4, adv_row (by decide)]; exact g106
  have k107 : m5 107 A = (a : Int) := by rw [hm5, u2_row _ _ _ (by decide), p11.1 107 (by decide), hm4, adv_row (by decide)]; exact g107
  have k109 : m5 109 A = (N' : Int) - 1 := by rw [hm5]; exact u2_same _ _ _ _
  rw [← hm5] at h4
  rw [x1, xb_inl, x2, Option.bind_some, gd_pos (by omega)]
  show AOUT T sc0 sm0 sc sm a S P np w (xb (f_92 93 sc') fun q9 => j_147_67 (a : Int) (T.vl a) (sc' 66 8) q9) ((f_231 16 (ax_u2 sm' 109 A ((N' : Int) - 1))).bind fun q10 => j_259_257 (S : Int) (A : Int) ((D - 1 : Nat) : Int) q10.2)
  rw [← hm5, p15]
  obtain ⟨l1, l2, l3, l4, l5, -⟩ := id h4.1
  by_cases t2 : T.tk a' = 93
  rotate_left
  · right
    have f1 : 0 < (tel m5 2 a') 84 6 := by rw [tel_at]; decide
    obtain ⟨mG, y1, y2⟩ := fat1 (S := S) (A := A) (d := ((D - 1 : Nat) : Int)) hA f1
    refine ⟨15, sc', mG, by rw [c92n p3 t2, xb_err], Or.inr rfl, ⟨sf3.trans p10.sf, _, p3⟩, ?_, (sg5.trans tel_sf).trans y2.1, y2.2⟩
    rw [takeN l2 hT l5 l4 hz' (k := 93) (by decide) (by decide) t2, Option.bind_some]
    exact y1
  have z2 := hT.lt hz' (by rw [t2]; decide)
  have h5 := h4.tok hp z2 (Or.inl (Or.inr (Or.inl ⟨p21, by rw [t2]; decide⟩))) (by rw [t2]; decide) (by rw [t2]; decide) (by rw [t2]; decide)
  rw [c92y hT p1 p3 t2 (by decide), xb_inl, takeY l2 hT l5 l4 hz' (k := 93) (by decide) t2, Option.bind_some]
  exact (asg_tail hT hp h5 (a0 := a) (by omega) t0 (by rw [adv_row (by decide)]; exact k106) (by rw [adv_row (by decide)]; exact k107) (by rw [adv_row (by decide)]; exact k109) (Or.inr ⟨N' - 1, by omega, by omega⟩) hCa hAa (Or.inr (by rw [show a' + 1 - 1 = a' by omega]; exact t2))).mono ((sf3.trans p10.sf).trans cur_sf) (sg5.trans adv_sf) (by omega)
end ASW
/-! AN ACTION: if. -/
section IFA
variable {T : TT} {sc0 sm0 sc sm sc' sm' m : Sg} {a b a1 a' S P A N N' K K' C C' B B' D D' np w : Nat}
theorem OBm_row {x : Int} {c : Nat} (h : ¬ (c = 84 ∨ c = 114 ∨ c = 115)) : OBm m D x b c = m c := by
  unfold OBm
  rw [u2_row _ _ _ (by omega), u2_row _ _ _ (by omega), u2_row _ _ _ (by omega), adv_row (by omega)]
theorem OBm_84 {x : Int} {j : Nat} (h : j ≠ 18) (h2 : j ≠ 43) : OBm m D x b 84 j = m 84 j := by
  unfold OBm
  rw [u2_col _ _ _ h2, u2_row _ _ _ (by decide), u2_row _ _ _ (by decide), adv_col h]
theorem OBm_at {x : Int} : OBm m D x b 84 18 = ((b + 1 : Nat) : Int) ∧ OBm m D x b 84 43 = ((D + 1 : Nat) : Int) ∧ OBm m D x b 114 D = x ∧ OBm m D x b 115 D = m 84 46 ∧ (∀ i, i ≠ D → OBm m D x b 114 i = m 114 i) ∧ (∀ i, i ≠ D → OBm m D x b 115 i = m 115 i) := by
  unfold OBm
  refine ⟨?_, u2_same _ _ _ _, ?_, ?_, fun i hi => ?_, fun i hi => ?_⟩
  · rw [u2_col _ _ _ (by decide), u2_row _ _ _ (by decide), u2_row _ _ _ (by decide), adv_at]
  · rw [u2_row _ _ _ (by decide), u2_row _ _ _ (by decide)]; exact u2_same _ _ _ _
  · rw [u2_row _ _ _ (by decide)]; exact u2_same _ _ _ _
  · rw [u2_row _ _ _ (by decide), u2_row _ _ _ (by decide), u2_col _ _ _ hi, adv_row (by decide)]
  · rw [u2_row _ _ _ (by decide), u2_col _ _ _ hi, u2_row _ _ _ (by decide), adv_row (by decide)]
theorem OBm_sf {x : Int} : SFm m (OBm m D x b) := ⟨fun c x => OBm_row (by omega), fun j x => OBm_84 (by omega) (by omega)⟩
/-- the class's side -/
def OBc (T : TT) (s : Sg) (D : Nat) (wd mk : Int) (b : Nat) : Sg := ax_u2 (ax_u2 (ax_u2 (cur T s (b + 1)) 71 D wd) 72 D mk) 70 9 ((D + 1 : Nat) : Int)
theorem OBc_row {s : Sg} {wd mk : Int} {c : Nat} (h : ¬ (c = 39 ∨ 70 ≤ c ∧ c ≤ 72)) : OBc T s D wd mk b c = s c := by
  unfold OBc
  rw [u2_row _ _ _ (by omega), u2_row _ _ _ (by omega), u2_row _ _ _ (by omega), cur_row (by omega)]
theorem OBc_at {s : Sg} {wd mk : Int} (hb : b + 1 ≤ T.z) : CU T (OBc T s D wd mk b) (b + 1) ∧ (∀ j, j ≠ 10 → j ≠ 11 → OBc T s D wd mk b 39 j = s 39 j) ∧ OBc T s D wd mk b 70 9 = ((D + 1 : Nat) : Int) ∧ OBc T s D wd mk b 71 D = wd ∧ OBc T s D wd mk b 72 D = mk ∧ (∀ i, i ≠ D → OBc T s D wd mk b 71 i = s 71 i) ∧ (∀ i, i ≠ D → OBc T s D wd mk b 72 i = s 72 i) := by
  have r : ∀ c, c < 70 → OBc T s D wd mk b c = (cur T s (b + 1)) c := fun c x => by
    unfold OBc
    rw [u2_row _ _ _ (by omega), u2_row _ _ _ (by omega), u2_row _ _ _ (by omega)]
  have cu := cur_cu (T := T) (s := s) hb
  refine ⟨⟨by rw [r 39 (by decide)]; exact cu.1, by rw [r 39 (by decide)]; exact cu.2.1, hb⟩, fun j x y => by rw [r 39 (by decide), cur_col x y], ?_, ?_, ?_, fun i hi => ?_, fun i hi => ?_⟩
  · unfold OBc; exact u2_same _ _ _ _
  · unfold OBc; rw [u2_row _ _ _ (by decide), u2_row _ _ _ (by decide)]; exact u2_same _ _ _ _
  · unfold OBc; rw [u2_row _ _ _ (by decide)]; exact u2_same _ _ _ _
  · unfold OBc; rw [u2_row _ _ _ (by decide), u2_row _ _ _ (by decide), u2_col _ _ _ hi, cur_row (by decide)]
  · unfold OBc; rw [u2_row _ _ _ (by decide), u2_col _ _ _ hi, u2_row _ _ _ (by decide), cur_row (by decide)]
/-- a claim of an if -/
def CIc (s : Sg) (C : Nat) (x y : Int) : Sg := ax_u2 (ax_u2 (ax_u2 (ax_u2 (ax_u2 s 62 C x) 63 C (-1)) 64 C y) 65 C 1) 61 4 ((C + 1 : Nat) : Int)
theorem CIc_row {s : Sg} {x y : Int} {c : Nat} (h : ¬ (61 ≤ c ∧ c ≤ 65)) : CIc s C x y c = s c := by
  unfold CIc
  rw [u2_row _ _ _ (by omega), u2_row _ _ _ (by omega), u2_row _ _ _ (by omega), u2_row _ _ _ (by omega), u2_row _ _ _ (by omega)]
theorem CIc_at {s : Sg} {x y : Int} : CIc s C x y 61 4 = ((C + 1 : Nat) : Int) ∧ CIc s C x y 62 C = x ∧ CIc s C x y 63 C = -1 ∧ CIc s C x y 64 C = y ∧ CIc s C x y 65 C = 1 ∧ (∀ c j, 62 ≤ c → c ≤ 65 → j ≠ C → CIc s C x y c j = s c j) := by
  unfold CIc
  refine ⟨by simp [ax_u2], by simp [ax_u2], by simp [ax_u2], by simp [ax_u2], by simp [ax_u2], fun c j u v e => ?_⟩
  have n1 : c ≠ 61 := by omega
  simp [ax_u2, e, n1]
theorem CIc_sf {s : Sg} {x y : Int} : SFc s (CIc s C x y) := ⟨fun c x => CIc_row (by omega), fun j _ _ => by rw [CIc_row (by decide)], fun j _ => by rw [CIc_row (by decide)], fun j _ => by rw [CIc_row (by decide)], W8.same (CIc_row (by decide))⟩
theorem PIA.ifo (hp : POS T) (h : PIA T sc0 sm0 sc sm b S P A N K C B D np w) (t : T.tk b = 123) (hz : b < T.z) (hD : D < 80) {x : Nat} (hx : x < T.z) (hN : 1 ≤ N) (h106 : sm 106 A = 1) (h110 : sm 110 A = (N : Int) - 1) (h111 : sm 111 A = (x : Int)) (hpv : T.tk (b - 1) ∈ opB) (hC : 4 * ((C + 1 : Nat) : Int) ≤ T.fm (b + 1)) : PS1 T sc0 sm0 (OBc T (CIc sc C (x : Int) ((N : Int) - 1)) D 21 (B : Int) b) (OBm sm D 1 b) (b + 1) S P (A + 1) N K (C + 1) B (D + 1) np w := by
  obtain ⟨h1, h2, h3, h4, h5⟩ := h
  obtain ⟨e1, e2, e3, e4, e5, e6, e7, e8, e9, e10, e11, e12, e13, e14, e15, e16, e17, e18, e19, e20, e21, e22, e23, e24, e25, e26, e27, e28, e29, e30, e31⟩ := id h1
  obtain ⟨k1, k2, k3, k4, k5, k6, k7⟩ := OBc_at (T := T) (s := CIc sc C (x : Int) ((N : Int) - 1)) (D := D) (wd := 21) (mk := (B : Int)) (b := b) (by omega)
  obtain ⟨l1, l2, l3, l4, l5, l6⟩ := OBm_at (m := sm) (D := D) (x := 1) (b := b)
  obtain ⟨c1, c2, c3, c4, c5, c6⟩ := CIc_at (s := sc) (C := C) (x := (x : Int)) (y := (N : Int) - 1)
  obtain ⟨sF, hsF⟩ : ∃ s : Sg, s = OBc T (CIc sc C (x : Int) ((N : Int) - 1)) D 21 (B : Int) b := ⟨_, rfl⟩
  obtain ⟨mF, hmF⟩ : ∃ s : Sg, s = OBm sm D 1 b := ⟨_, rfl⟩
  have rc : ∀ c, ¬ (c = 39 ∨ 61 ≤ c ∧ c ≤ 65 ∨ 70 ≤ c ∧ c ≤ 72) → sF c = sc c := fun c y => by rw [hsF, OBc_row (by omega), CIc_row (by omega)]
  have rk : ∀ c, 61 ≤ c → c ≤ 65 → sF c = CIc sc C (x : Int) ((N : Int) - 1) c := fun c y z => by rw [hsF, OBc_row (by omega)]
  have rm : ∀ c, ¬ (c = 84 ∨ c = 114 ∨ c = 115) → mF c = sm c := fun c y => by rw [hmF, OBm_row (by omega)]
  have r8 : ∀ j, j ≠ 18 → j ≠ 43 → mF 84 j = sm 84 j := fun j y z => by rw [hmF, OBm_84 y z]
  rw [← hsF] at k1 k2 k3 k4 k5 k6 k7
  rw [← hmF] at l1 l2 l3 l4 l5 l6
  rw [← hsF, ← hmF]
  have hd := h3.2.2.2.2.2
  have d1 := h2.2.2.1
  have hr := h2.rep
  have cn : CN sF ↔ CN sc := by unfold CN; rw [rc 30 (by decide)]
  have q106 : mF 106 A = 1 := by rw [rm 106 (by decide)]; exact h106
  have arl : ARL T mF (S + 1) N A := by
    refine ⟨S, by rw [rm 112 (by decide)]; exact h4, by omega, by rw [rm 94 (by decide)]; exact h3.2.2.2.2.1, by rw [rm 113 (by decide), h5]; exact hr.1, by rw [rm 113 (by decide), h5]; exact hr.2.1, by rw [rm 113 (by decide), h5, rm 106 (by decide)]; exact hr.2.2, Or.inr (Or.inl ⟨q106, ⟨N - 1, by rw [rm 110 (by decide), h110]; omega, by omega⟩, ⟨x, by rw [rm 111 (by decide)]; exact h111, hx⟩⟩)⟩
  have gac : GAC T mF A := by
    unfold GAC
    rw [q106]
    exact ⟨fun z => absurd z (by decide), fun z => absurd z (by decide), fun z => absurd z (by decide)⟩
  have cl : sF 62 C = mF 111 A ∧ sF 63 C = -1 ∧ sF 64 C = mF 110 A ∧ sF 65 C = 1 := by
    rw [rk 62 (by decide) (by decide), rk 63 (by decide) (by decide), rk 64 (by decide) (by decide), rk 65 (by decide) (by decide), rm 111 (by decide), rm 110 (by decide), h110, h111]
    exact ⟨c2, c3, c4, c5⟩
  refine ⟨?_, ?_, ?_, Or.inl (by rw [show b + 1 - 1 = b by omega]; exact t)⟩
  · refine PXB.ps (h1.gen (B' := B) (fun c y => rc c (by omega)) (fun j y z => by rw [k2 j y z, CIc_row (by decide)]) (fun j _ => by rw [rc 30 (by decide)]) (fun j _ => by rw [rc 31 (by decide)]) (by rw [rc 31 (by decide)]; exact e14) (by rw [rk 61 (by decide) (by decide)]; exact c1) (fun c j y z u => by rw [rk c (by omega) (by omega)]; exact c6 c j y z (by omega)) (fun i hi => by rw [rc 59 (by decide), rm 102 (by decide)]; exact e18 i hi) k1 (fun c y => rm c (by omega)) (fun c i y z _ => by rw [rm c (by omega)]) (fun j y _ z _ => r8 j y z) l1 (by rw [r8 34 (by decide) (by decide)]; exact e12) (by omega) (by omega) (fun i y z => by rw [show i = A by omega]; exact arl) (fun c y z => by rw [show c = C by omega]; exact Or.inr (Or.inl ⟨A, by omega, q106, cl⟩)) (fun _ i y z u => by rw [show i = A by omega, q106] at u; exact absurd u (by decide)) (fun i y z _ => by rw [show i = A by omega]; exact ⟨C, by omega, cl⟩) ⟨fun y => ⟨cn.mp y, fun i u v => by rw [show i = A by omega]; exact gac⟩, fun y => cn.mpr y.1⟩ (by omega) (fun k y z => ?_) hC (by omega) (by omega))
    rw [show k = b by omega]
    exact ⟨Or.inr (Or.inl ⟨hpv, Or.inr t⟩), STT.deep (by rw [t]; decide) (by omega)⟩
  · exact h2.push (wd := 21) (x := 1) (by omega) hD k3 (fun i hi => by rw [k6 i hi, CIc_row (by decide)]) k4 (fun i hi => by rw [k7 i hi, CIc_row (by decide)]) k5 (by rw [rc 31 (by decide)]) (rc 38 (by decide)) (rc 37 (by decide)) l2 (r8 46 (by decide) (by decide)) l5 l3 l6 l4 (by rw [rm 98 (by decide)]) (by rw [rm 99 (by decide)]) (rm 104 (by decide)) (rm 105 (by decide)) (fun i _ => ⟨by rw [rm 107 (by decide)], by rw [rm 113 (by decide)]⟩) (fun i _ => by rw [rm 106 (by decide)]) (Or.inr rfl) (by decide) cn.mp
  · refine h3.cg hp (rc 60 (by decide)) (rm 103 (by decide)) (rm 94 (by decide)) (r8 19 (by decide) (by decide)) (by omega) (by omega) ?_
    simp only [dpt]
    rw [if_pos t, hd]
    omega
theorem act_if (hT : TWF T) (hp : POS T) (h : PS1 T sc0 sm0 sc sm a S P A N K C B D np w) (t0 : T.tk a = 21) : AOUT T sc0 sm0 sc sm a S P np w (f_144 sc) (f_259 (S : Int) sm) := by
  obtain ⟨hS, hA, hz, h8, hC8, hB8, h39, r144, r259⟩ := h.sz hT hp
  have hb := h.begin
  have htl := h.2.2.2
  have hAa : A ≤ a := h.1.2.2.2.2.2.2.2.2.2.2.2.2.2.2.2.2.2.2.2.2.2.2.2.1
  have hCa : 4 * (C : Int) ≤ T.fm a := h.1.2.2.2.2.2.2.2.2.2.2.2.2.2.2.2.2.2.2.2.2.1
  obtain ⟨sc1, hsc1⟩ : ∃ s : Sg, s = ACc sc S := ⟨_, rfl⟩
  obtain ⟨m1, hm1⟩ : ∃ s : Sg, s = ACm sm S A := ⟨_, rfl⟩
  have sf1 : SFc sc sc1 := by rw [hsc1]; exact ACc_sf
  have sg1 : SFm sm m1 := by rw [hm1]; exact ACm_sf
  have v109 : m1 109 A = -1 := by rw [hm1]; exact ACm_A.2.2.2.1
  rw [← hsc1, ← hm1] at hb
  rw [← hsc1] at r144
  rw [← hm1] at r259
  rw [r144 (by rw [t0]; decide), r259]
  obtain ⟨e1, e2, e3, e4, e5, -⟩ := id hb.1
  have z0 := hT.lt hz (by rw [t0]; decide)
  rw [if_neg (by rw [e3.2.1, t0]; decide), if_pos (by rw [e3.2.1, t0])]
  rw [eatY e2 hT e5 e4 hz (k := 21) (by decide) t0]
  have h1 := ((hb.tok hp z0 (Or.inr (Or.inr (Or.inr (Or.inr (Or.inr (Or.inl ⟨by rcases htl with x | x | x <;> simp [x], by simp [t0]⟩)))))) (by rw [t0]; decide) (by rw [t0]; decide) (by rw [t0]; decide)).row (c := 106) (v := 1) hp (by decide)).row (c := 111) (v := ((a + 1 : Nat) : Int)) hp (by decide)
  obtain ⟨sc2, hsc2⟩ : ∃ s : Sg, s = cur T sc1 (a + 1) := ⟨_, rfl⟩
  obtain ⟨m2, hm2⟩ : ∃ s : Sg, s = ax_u2 (ax_u2 (adv m1 (a + 1)) 106 A 1) 111 A ((a + 1 : Nat) : Int) := ⟨_, rfl⟩
  have sf2 : SFc sc sc2 := by rw [hsc2]; exact sf1.trans cur_sf
  have sg2 : SFm sm m2 := by rw [hm2]; exact ((sg1.trans adv_sf).trans (ro_sf (by decide))).trans (ro_sf (by decide))
  have g106 : m2 106 A = 1 := by rw [hm2, u2_row _ _ _ (by decide)]; exact u2_same _ _ _ _
  have g111 : m2 111 A = ((a + 1 : Nat) : Int) := by rw [hm2]; exact u2_same _ _ _ _
  rw [← hsc2, ← hm2] at h1
  have rm : at1 (S : Int) (A : Int) ((D - 1 : Nat) : Int) ((1 : Int), adv m1 (a + 1)) = (f_257 (S : Int) ((D - 1 : Nat) : Int) m2).bind fun q16 => (gd (0 ≤ (A : Int) ∧ (A : Int) < 8200) ((f_258 1 (ax_u2 q16.2 110 A q16.1)).bind fun q17 => some q17)) := by
    unfold at1
    rw [if_neg (by simp), gd_pos (by omega), gd_pos (by omega), Int.toNat_natCast, hm2]
    dsimp only
    rw [adv_at]
  rw [rm]
  have rc : f_148 sc1 = (xb (f_45 100 (ax_w32 ((sc2 70 9) - 1)) sc2) fun q2 => ((f_38 (sc2 39 10) (q2 66 8) 1 q2).bind fun q3 => (xb (f_154 21 (q3 31 8) q3) fun q4 => some (.inl q4)))) := by
    unfold f_148
    rw [nxt hT e1 e3 (by rw [t0]; decide), hsc2]
  rw [rc]
  obtain ⟨j1, j2, j3, j4, j5, -⟩ := id h1.1
  have hc2 : sc2 61 4 = (C : Int) := h1.1.2.2.2.2.2.2.2.2.2.2.2.2.1
  have h70 := h1.2.1.1
  have d8 := h1.2.1.2.2.2.1
  have hz2 := j3.2.2
  rw [h1.dw, j3.1]
  have e38 : ∀ (s : Sg) (y : Int), s 61 4 = (C : Int) → f_38 ((a + 1 : Nat) : Int) y 1 s = some (CIc s C ((a + 1 : Nat) : Int) y) := fun s y hy => by
    rw [c38 hy (by omega)]
    rfl
  rcases h1.expr hT hp (by rw [show a + 1 - 1 = a by omega, t0]; decide) with ⟨sc', sm', a', N', K', x1, x2, x3, x4⟩ | ⟨sc', mF, a', x1, x2, y2, y3, y4, x3, x4, x5, x6⟩ | ⟨x, sc', mF, x1, x2, x3, x4, x5⟩
  rotate_left
  · right
    obtain ⟨x, z1, z2⟩ := c154n (T := T) (s := CIc sc' C ((a + 1 : Nat) : Int) (sc' 66 8)) (a := a') (b := D) (w := 21) (m := (CIc sc' C ((a + 1 : Nat) : Int) (sc' 66 8)) 31 8) ⟨by rw [CIc_row (by decide)]; exact x3.1, by rw [CIc_row (by decide)]; exact x3.2.1, x3.2.2⟩ (by rw [CIc_row (by decide), y2]; exact h70) (Or.inl (by rcases x4 with y | y | y <;> rw [y] <;> decide))
    refine ⟨x, CIc sc' C ((a + 1 : Nat) : Int) (sc' 66 8), ax_u2 mF 110 A 0, ?_, z1, ⟨(sf2.trans x2).trans CIc_sf, a', by rw [CIc_row (by decide)]; exact x3.1, by rw [CIc_row (by decide)]; exact x3.2.1, x3.2.2⟩, ?_, (sg2.trans x6.1).trans (ro_sf (by decide)), by rw [u2_row _ _ _ (by decide)]; exact x6.2⟩
    · rw [x1, xb_inl, e38 _ _ (by rw [y3]; exact hc2), Option.bind_some, z2, xb_err]
    · rw [x5, Option.bind_some, gd_pos (by omega)]
      show ((f_258 1 (ax_u2 mF 110 A 0)).bind fun q17 => some q17) = _
      rw [fl258 (by rw [u2_row _ _ _ (by decide)]; exact x6.2), Option.bind_some]
  · right
    refine ⟨x, sc', ax_u2 mF 110 A 0, by rw [x1, xb_err], x2, ⟨sf2.trans x3.1, x3.2⟩, ?_, (sg2.trans x5.1).trans (ro_sf (by decide)), by rw [u2_row _ _ _ (by decide)]; exact x5.2⟩
    rw [x4, Option.bind_some, gd_pos (by omega)]
    show ((f_258 1 (ax_u2 mF 110 A 0)).bind fun q17 => some q17) = _
    rw [fl258 (by rw [u2_row _ _ _ (by decide)]; exact x5.2), Option.bind_some]
  obtain ⟨p1, p2, p3, p4, p5, p6, p7, p8, p9, p10, p11, p12, p13, p14, p15, p16, p17, p18, p19, p20, p21⟩ := id x3
  have hz' := p3.2.2
  have h4 := x4.row (c := 110) (v := (N' : Int) - 1) hp (by decide)
  obtain ⟨m5, hm5⟩ : ∃ s : Sg, s = ax_u2 sm' 110 A ((N' : Int) - 1) := ⟨_, rfl⟩
  have sg5 : SFm sm m5 := by rw [hm5]; exact (sg2.trans p11.sf).trans (ro_sf (by decide))
  have k106 : m5 106 A = 1 := by rw [hm5, u2_row _ _ _ (by decide), p11.1 106 (by decide)]; exact g106
  have k111 : m5 111 A = ((a + 1 : Nat) : Int) := by rw [hm5, u2_row _ _ _ (by decide), p11.1 111 (by decide)]; exact g111
  have k110 : m5 110 A = (N' : Int) - 1 := by rw [hm5]; exact u2_same _ _ _ _
  rw [← hm5] at h4
  obtain ⟨l1, l2, l3, l4, l5, -⟩ := id h4.1
  have l13 : sc' 61 4 = (C : Int) := h4.1.2.2.2.2.2.2.2.2.2.2.2.2.1
  have l14 : sc' 31 8 = (B : Int) := h4.1.2.2.2.2.2.2.2.2.2.2.2.2.2.1
  have l43 := h4.2.1.2.1
  have l70 := h4.2.1.1
  rw [x1, xb_inl, x2, Option.bind_some, gd_pos (by omega)]
  show AOUT T sc0 sm0 sc sm a S P np w ((f_38 ((a + 1 : Nat) : Int) (sc' 66 8) 1 sc').bind fun q3 => (xb (f_154 21 (q3 31 8) q3) fun q4 => some (.inl q4))) ((f_258 1 (ax_u2 sm' 110 A ((N' : Int) - 1))).bind fun q17 => some q17)
  rw [← hm5, p15, e38 _ _ l13, Option.bind_some, CIc_row (by decide), l14]
  have cuk : CU T (CIc sc' C ((a + 1 : Nat) : Int) ((N' : Int) - 1)) a' := ⟨by rw [CIc_row (by decide)]; exact p3.1, by rw [CIc_row (by decide)]; exact p3.2.1, hz'⟩
  have k70 : (CIc sc' C ((a + 1 : Nat) : Int) ((N' : Int) - 1)) 70 9 = (D : Int) := by rw [CIc_row (by decide)]; exact l70
  have sfk : SFc sc (CIc sc' C ((a + 1 : Nat) : Int) ((N' : Int) - 1)) := (sf2.trans p10.sf).trans CIc_sf
  by_cases t2 : T.tk a' = 123 ∧ D < 80
  · left
    have z2 := hT.lt hz' (by rw [t2.1]; decide)
    have pa := hp.2.2.1 a z0 t0
    have pb := hp.add (k := a + 1) (a' - (a + 1)) (by omega)
    rw [show a + 1 + (a' - (a + 1)) = a' by omega] at pb
    have pc := hp.1 a' z2
    refine ⟨_, _, a' + 1, A + 1, N', K', C + 1, B, D + 1, ?_, ?_, by omega, h4.ifo hp t2.1 z2 t2.2 (x := a + 1) (by omega) (by omega) k106 k110 k111 p21 (by omega)⟩
    · rw [c154y hT (sfk.cc h.1.1) cuk t2.1 k70 t2.2, xb_inl]
      rfl
    · rw [m258y hT l2 l5 l4 hz' t2.1 l43 t2.2 (Or.inr rfl), Option.bind_some]
  · right
    obtain ⟨x, z1, z2⟩ := c154n (T := T) (s := CIc sc' C ((a + 1 : Nat) : Int) ((N' : Int) - 1)) (a := a') (b := D) (w := 21) (m := (B : Int)) cuk k70 (by
      by_cases t3 : T.tk a' = 123
      · exact Or.inr (by
          apply Decidable.byContradiction
          intro hn
          exact t2 ⟨t3, by omega⟩)
      · exact Or.inl t3)
    by_cases t3 : D < 80
    · obtain ⟨mF, y3, y4⟩ := m258n hT l2 l5 l4 hz' (fun e => t2 ⟨e, t3⟩) l43 t3 (x := 1) (Or.inr rfl)
      exact ⟨x, _, mF, by rw [z2, xb_err], z1, ⟨sfk, _, cuk⟩, by rw [y3, Option.bind_some], sg5.trans y4.1, y4.2⟩
    · refine ⟨x, _, tel m5 3 a', by rw [z2, xb_err], z1, ⟨sfk, _, cuk⟩, by rw [m258d hT l5 l4 hz' l43 (by omega), Option.bind_some], sg5.trans tel_sf, by rw [tel_at]; decide⟩
end IFA
/-! AN ACTION: rep. -/
section REPA
variable {T : TT} {sc0 sm0 sc sm sc' sm' s4 m : Sg} {a b a1 a' S P A N N' K K' C C' B B' D D' np w : Nat}
theorem PIA.repo (hT : TWF T) (hp : POS T) (h : PIA T sc0 sm0 sc sm b S P A N K C B D np w) (t : T.tk b = 2) (t2 : T.tk (b + 1) = 123) (hz : b + 1 < T.z) (hD : D < 80) {x : Nat} (hx : x < T.z) (tx : T.tk x = 1) (hpv : T.tk (b - 1) = 1) (h106 : sm 106 A = 2) (h107 : sm 107 A = (x : Int)) (hA : A ≤ b)
    (k3 : ∀ c, ¬ (c = 30 ∨ c = 31 ∨ 37 ≤ c ∧ c ≤ 39) → s4 c = sc c) (k4 : ∀ j, j < 4 ∨ 7 < j → s4 30 j = sc 30 j) (k5 : ∀ j, j ≠ 10 → j ≠ 11 → s4 39 j = sc 39 j) (k6 : ∀ j, j ≠ 8 → s4 31 j = sc 31 j) (k7 : s4 31 8 = ((B + 1 : Nat) : Int)) (k8 : s4 38 B = (((T.vl x).toNat : Nat) : Int)) (k9 : s4 37 (T.vl x).toNat = 8) (k10 : ∀ i, i ≠ B → s4 38 i = sc 38 i) (k11 : ∀ i, i ≠ (T.vl x).toNat → s4 37 i = sc 37 i) (kc : CN s4 ↔ (CN sc ∧ 1 ≤ T.vl b ∧ T.vl b ≤ 255) ∧ sc 37 (T.vl x).toNat = 0) :
    PS1 T sc0 sm0 (OBc T s4 D 23 (B : Int) (b + 1)) (OBm (ax_u2 (ax_u2 (adv sm (b + 1)) 108 A (b : Int)) 84 46 (A : Int)) D 0 (b + 1)) (b + 1 + 1) S P (A + 1) N K C (B + 1) (D + 1) np w := by
  obtain ⟨h1, h2, h3, h4, h5⟩ := h
  obtain ⟨e1, e2, e3, e4, e5, e6, e7, e8, e9, e10, e11, e12, e13, e14, e15, e16, e17, e18, e19, e20, e21, e22, e23, e24, e25, e26, e27, e28, e29, e30, e31⟩ := id h1
  have h8 := hT.1
  obtain ⟨o1, o2, o3, o4, o5, o6, o7⟩ := OBc_at (T := T) (s := s4) (D := D) (wd := 23) (mk := (B : Int)) (b := b + 1) (by omega)
  obtain ⟨m3, hm3⟩ : ∃ s : Sg, s = ax_u2 (ax_u2 (adv sm (b + 1)) 108 A (b : Int)) 84 46 (A : Int) := ⟨_, rfl⟩
  obtain ⟨l1, l2, l3, l4, l5, l6⟩ := OBm_at (m := m3) (D := D) (x := 0) (b := b + 1)
  obtain ⟨sF, hsF⟩ : ∃ s : Sg, s = OBc T s4 D 23 (B : Int) (b + 1) := ⟨_, rfl⟩
  obtain ⟨mF, hmF⟩ : ∃ s : Sg, s = OBm m3 D 0 (b + 1) := ⟨_, rfl⟩
  have n46 : m3 84 46 = (A : Int) := by rw [hm3]; exact u2_same _ _ _ _
  have rc4 : ∀ c, ¬ (c = 39 ∨ 70 ≤ c ∧ c ≤ 72) → sF c = s4 c := fun c y => by rw [hsF, OBc_row (by omega)]
  have rc : ∀ c, ¬ (c = 30 ∨ c = 31 ∨ 37 ≤ c ∧ c ≤ 39 ∨ 70 ≤ c ∧ c ≤ 72) → sF c = sc c := fun c y => by rw [rc4 c (by omega), k3 c (by omega)]
  have rm : ∀ c, ¬ (c = 84 ∨ c = 108 ∨ c = 114 ∨ c = 115) → mF c = sm c := fun c y => by rw [hmF, OBm_row (by omega), hm3, u2_row _ _ _ (by omega), u2_row _ _ _ (by omega), adv_row (by omega)]
  have rm8 : ∀ i, i ≠ A → mF 108 i = sm 108 i := fun i hi => by rw [hmF, OBm_row (by decide), hm3, u2_row _ _ _ (by decide), u2_col _ _ _ hi, adv_row (by decide)]
  have v108 : mF 108 A = (b : Int) := by rw [hmF, OBm_row (by decide), hm3, u2_row _ _ _ (by decide)]; exact u2_same _ _ _ _
  have r8 : ∀ j, j ≠ 18 → j ≠ 43 → j ≠ 46 → mF 84 j = sm 84 j := fun j y z u => by rw [hmF, OBm_84 y z, hm3, u2_col _ _ _ u, u2_row _ _ _ (by decide), adv_col y]
  have f46 : mF 84 46 = (A : Int) := by rw [hmF, OBm_84 (by decide) (by decide)]; exact n46
  have f114 : ∀ i, i ≠ D → mF 114 i = sm 114 i := fun i hi => by rw [hmF, l5 i hi, hm3, u2_row _ _ _ (by decide), u2_row _ _ _ (by decide), adv_row (by decide)]
  have f115 : ∀ i, i ≠ D → mF 115 i = sm 115 i := fun i hi => by rw [hmF, l6 i hi, hm3, u2_row _ _ _ (by decide), u2_row _ _ _ (by decide), adv_row (by decide)]
  rw [← hsF] at o1 o2 o3 o4 o5 o6 o7
  rw [← hmF] at l1 l2 l3 l4
  rw [← hm3, ← hsF, ← hmF]
  rw [n46] at l4
  have hd := h3.2.2.2.2.2
  have d1 := h2.2.2.1
  have hr := h2.rep
  have cn : CN sF ↔ CN s4 := by unfold CN; rw [rc4 30 (by decide)]
  have q106 : mF 106 A = 2 := by rw [rm 106 (by decide)]; exact h106
  have q107 : mF 107 A = (x : Int) := by rw [rm 107 (by decide)]; exact h107
  have q113 : mF 113 A = sm 84 46 := by rw [rm 113 (by decide)]; exact h5
  have v1 := hT.2.2.2.2.1 x hx
  have v2 := hT.2.2.2.2.2.1 x hx tx
  have vi : (((T.vl x).toNat : Nat) : Int) = T.vl x := by omega
  have arl : ARL T mF (S + 1) N A := by
    refine ⟨S, by rw [rm 112 (by decide)]; exact h4, by omega, by rw [rm 94 (by decide)]; exact h3.2.2.2.2.1, by rw [q113]; exact hr.1, by rw [q113]; exact hr.2.1, by rw [q113, rm 106 (by decide)]; exact hr.2.2, Or.inr (Or.inr (Or.inl ⟨q106, ⟨x, q107, hx, tx⟩, ⟨b, v108, by omega, t⟩⟩))⟩
  have ow : CN sc → (sc 37 (T.vl x).toNat ≠ 0 ↔ OWN T mF S (sm 84 46) (T.vl x)) := fun y => by
    have bn := (h2.2.2.2.2.2.2.2.2.2.2.2 y).1
    have bn' : BND T sc mF S (sm 84 46) B np := bn.rows (A := A) rfl rfl rfl (by rw [rm 98 (by decide)]) (by rw [rm 99 (by decide)]) (rm 104 (by decide)) (rm 105 (by decide)) (fun i _ => ⟨by rw [rm 107 (by decide)], by rw [rm 113 (by decide)]⟩) hr.2.1
    have := bn'.own (i := (T.vl x).toNat) (IDN.at hT hx tx)
    rw [vi] at this
    exact this
  have gac : GAC T mF A ↔ 1 ≤ T.vl b ∧ T.vl b ≤ 255 ∧ ¬ OWN T mF S (sm 84 46) (T.vl x) := by
    unfold GAC
    rw [q106, q107, q113, v108, rm 112 (by decide), h4, Int.toNat_natCast, Int.toNat_natCast, Int.toNat_natCast]
    exact ⟨fun y => y.1 rfl, fun y => ⟨fun _ => y, fun z => absurd z (by decide), fun z => absurd z (by decide)⟩⟩
  have pz := hp.add (k := b) 2 (by omega)
  rw [show b + 2 = b + 1 + 1 by omega] at pz
  refine ⟨?_, ?_, ?_, Or.inl (by rw [show b + 1 + 1 - 1 = b + 1 by omega]; exact t2)⟩
  · refine PXB.ps (h1.gen (fun c y => rc c (by omega)) (fun j y z => by rw [o2 j y z]; exact k5 j y z) (fun j y => by rw [rc4 30 (by decide)]; exact k4 j y) (fun j y => by rw [rc4 31 (by decide)]; exact k6 j y) (by rw [rc4 31 (by decide)]; exact k7) (by rw [rc 61 (by decide)]; exact e13) (fun c j y z u => by rw [rc c (by omega)]) (fun i hi => by rw [rc 59 (by decide), rm 102 (by decide)]; exact e18 i hi) o1 (fun c y => rm c (by omega)) (fun c i y z u => ?_) (fun j y _ z u => r8 j y z u) l1 (by rw [r8 34 (by decide) (by decide) (by decide)]; exact e12) (by omega) (Nat.le_refl _) (fun i y z => by rw [show i = A by omega]; exact arl) (fun c y z => absurd z (by omega)) (fun _ i y z u => by rw [show i = A by omega, q106] at u; exact absurd u (by decide)) (fun i y z u => by rw [show i = A by omega, q106] at u; exact absurd u (by decide)) ?_ (by omega) (fun k y z => ?_) ?_ (by omega) (by omega))
    · by_cases c8 : c = 108
      · subst c8; exact rm8 i (by omega)
      · rw [rm c (by omega)]
    · rw [cn, kc]
      constructor
      · intro y
        refine ⟨y.1.1, fun i u v => ?_⟩
        rw [show i = A by omega, gac]
        exact ⟨y.1.2.1, y.1.2.2, fun z => (ow y.1.1).mpr z y.2⟩
      · intro y
        have g := gac.mp (y.2 A (Nat.le_refl _) (by omega))
        refine ⟨⟨y.1, g.1, g.2.1⟩, ?_⟩
        apply Decidable.byContradiction
        intro hn
        exact g.2.2 ((ow y.1).mp hn)
    · by_cases c1 : k = b
      · rw [c1, hpv, t]
        exact ⟨Or.inr (Or.inr (Or.inl (by decide))), STT.deep (by rw [t]; decide) (by omega)⟩
      · rw [show k = b + 1 by omega, show b + 1 - 1 = b by omega, t, t2]
        refine ⟨Or.inr (Or.inl ⟨by decide, Or.inr rfl⟩), STT.deep (by rw [t2]; decide) ?_⟩
        rw [dpt_n (by rw [t]; decide) (by rw [t]; decide)]
        omega
    · omega
  · refine h2.pushr hT hx tx (by omega) hD o3 (fun i hi => by rw [o6 i hi, k3 71 (by decide)]) o4 (fun i hi => by rw [o7 i hi, k3 72 (by decide)]) o5 (by rw [rc4 31 (by decide)]; exact k7) (fun i hi => by rw [rc4 38 (by decide)]; exact k10 i hi) (by rw [rc4 38 (by decide)]; exact k8) (fun i hi => by rw [rc4 37 (by decide)]; exact k11 i hi) (by rw [rc4 37 (by decide)]; exact k9) l2 f46 f114 l3 f115 l4 (by rw [rm 98 (by decide)]) (by rw [rm 99 (by decide)]) (rm 104 (by decide)) (rm 105 (by decide)) (fun i _ => ⟨by rw [rm 107 (by decide)], by rw [rm 113 (by decide)]⟩) (fun i _ => by rw [rm 106 (by decide)]) q106 q107 q113 (fun y => ?_)
    have := kc.mp (cn.mp y)
    exact ⟨this.1.1, this.2⟩
  · refine h3.cg hp (rc 60 (by decide)) (rm 103 (by decide)) (rm 94 (by decide)) (r8 19 (by decide) (by decide) (by decide)) (by omega) (by omega) ?_
    have e1 : dpt T (b + 1) = (D : Int) := by rw [dpt_n (by rw [t]; decide) (by rw [t]; decide)]; exact hd
    have e2 : dpt T (b + 1 + 1) = dpt T (b + 1) + (if T.tk (b + 1) = 123 then 1 else if T.tk (b + 1) = 125 then -1 else 0) := rfl
    rw [e2, if_pos t2, e1]
    omega
theorem act_rep (hT : TWF T) (hp : POS T) (h : PS1 T sc0 sm0 sc sm a S P A N K C B D np w) (t0 : T.tk a = 23) : AOUT T sc0 sm0 sc sm a S P np w (f_144 sc) (f_259 (S : Int) sm) := by
  obtain ⟨hS, hA, hz, h8, hC8, hB8, h39, r144, r259⟩ := h.sz hT hp
  have hb := h.begin
  have htl := h.2.2.2
  have hAa : A ≤ a := h.1.2.2.2.2.2.2.2.2.2.2.2.2.2.2.2.2.2.2.2.2.2.2.2.1
  have hCa : 4 * (C : Int) ≤ T.fm a := h.1.2.2.2.2.2.2.2.2.2.2.2.2.2.2.2.2.2.2.2.2.1
  obtain ⟨sc1, hsc1⟩ : ∃ s : Sg, s = ACc sc S := ⟨_, rfl⟩
  obtain ⟨m1, hm1⟩ : ∃ s : Sg, s = ACm sm S A := ⟨_, rfl⟩
  have sf1 : SFc sc sc1 := by rw [hsc1]; exact ACc_sf
  have sg1 : SFm sm m1 := by rw [hm1]; exact ACm_sf
  have v109 : m1 109 A = -1 := by rw [hm1]; exact ACm_A.2.2.2.1
  rw [← hsc1, ← hm1] at hb
  rw [← hsc1] at r144
  rw [← hm1] at r259
  rw [r144 (by rw [t0]; decide), r259]
  obtain ⟨e1, e2, e3, e4, e5, -⟩ := id hb.1
  have z0 := hT.lt hz (by rw [t0]; decide)
  rw [if_neg (by rw [e3.2.1, t0]; decide), if_neg (by rw [e3.2.1, t0]; decide), if_pos (by rw [e3.2.1, t0])]
  rw [eatN e2 hT e4 hz (k := 21) (by decide) (by decide) (by rw [t0]; decide)]
  have h1 := (hb.tok hp z0 (Or.inr (Or.inr (Or.inr (Or.inr (Or.inr (Or.inl ⟨by rcases htl with x | x | x <;> simp [x], by simp [t0]⟩)))))) (by rw [t0]; decide) (by rw [t0]; decide) (by rw [t0]; decide)).row (c := 106) (v := 2) hp (by decide)
  obtain ⟨sc2, hsc2⟩ : ∃ s : Sg, s = cur T sc1 (a + 1) := ⟨_, rfl⟩
  obtain ⟨m2, hm2⟩ : ∃ s : Sg, s = ax_u2 (adv m1 (a + 1)) 106 A 2 := ⟨_, rfl⟩
  have sf2 : SFc sc sc2 := by rw [hsc2]; exact sf1.trans cur_sf
  have sg2 : SFm sm m2 := by rw [hm2]; exact (sg1.trans adv_sf).trans (ro_sf (by decide))
  have g106 : m2 106 A = 2 := by rw [hm2]; exact u2_same _ _ _ _
  rw [← hsc2, ← hm2] at h1
  have rm : at1 (S : Int) (A : Int) ((D - 1 : Nat) : Int) ((0 : Int), m1) = (f_231 1 m2).bind fun q13 => (gd (0 ≤ (A : Int) ∧ (A : Int) < 8200) ((f_231 2 (ax_u2 q13.2 107 A q13.1)).bind fun q14 => (gd (0 ≤ (A : Int) ∧ (A : Int) < 8200) ((f_258 0 (ax_u2 (ax_u2 q14.2 108 A q14.1) 84 46 (A : Int))).bind fun q15 => some q15)))) := by
    unfold at1
    rw [if_pos rfl, eatY e2 hT e5 e4 hz (k := 23) (by decide) t0]
    rw [if_neg (by simp), gd_pos (by omega), Int.toNat_natCast, hm2]
  rw [rm]
  have rc : f_149 sc1 = (xb (f_96 sc2) fun q2 => (xb (f_93 1 255 q2.2) fun q3 => ((f_155 q2.1 (sc2 39 10) 8 q3.2).bind fun q4 => (xb (f_154 23 (q3.2 31 8) q4) fun q5 => some (.inl q5))))) := by
    unfold f_149
    rw [nxt hT e1 e3 (by rw [t0]; decide), hsc2]
  rw [rc]
  obtain ⟨j1, j2, j3, j4, j5, -⟩ := id h1.1
  have hz2 := j3.2.2
  rw [j3.1]
  have fin : ∀ (mx : Sg) (v : Int), 0 < mx 84 6 → ((f_258 0 (ax_u2 (ax_u2 mx 108 A v) 84 46 (A : Int))).bind fun q15 => some q15) = some (ax_u2 (ax_u2 mx 108 A v) 84 46 (A : Int)) ∧ BSm mx (ax_u2 (ax_u2 mx 108 A v) 84 46 (A : Int)) := fun mx v hf => by
    have e : 0 < (ax_u2 (ax_u2 mx 108 A v) 84 46 (A : Int)) 84 6 := by rw [u2_col _ _ _ (by decide), u2_row _ _ _ (by decide)]; exact hf
    refine ⟨by rw [fl258 e, Option.bind_some], (ro_sf (by decide)).trans (slot_sf (by decide)), e⟩
  by_cases t1 : T.tk (a + 1) = 1
  rotate_left
  · right
    have f1 : 0 < (ax_u2 (tel m2 2 (a + 1)) 107 A 0) 84 6 := by rw [u2_row _ _ _ (by decide), tel_at]; decide
    obtain ⟨y1, y2⟩ := fin _ 0 f1
    refine ⟨15, sc2, _, by rw [c96n j3 t1, xb_err], Or.inr rfl, ⟨sf2, _, j3⟩, ?_, ((sg2.trans tel_sf).trans (ro_sf (by decide))).trans y2.1, y2.2⟩
    rw [takeN j2 hT j5 j4 hz2 (k := 1) (by decide) (by decide) t1, Option.bind_some, gd_pos (by omega)]
    show ((f_231 2 (ax_u2 (tel m2 2 (a + 1)) 107 A 0)).bind fun q14 => (gd (0 ≤ (A : Int) ∧ (A : Int) < 8200) ((f_258 0 (ax_u2 (ax_u2 q14.2 108 A q14.1) 84 46 (A : Int))).bind fun q15 => some q15))) = _
    rw [takeF f1, Option.bind_some, gd_pos (by omega)]
    exact y1
  have z1 := hT.lt hz2 (by rw [t1]; decide)
  have h2 := (h1.tok hp z1 (Or.inr (Or.inr (Or.inl (by rw [show a + 1 - 1 = a by omega, t0, t1]; decide)))) (by rw [t1]; decide) (by rw [t1]; decide) (by rw [t1]; decide)).row (c := 107) (v := ((a + 1 : Nat) : Int)) hp (by decide)
  rw [c96y hT j1 j3 t1, xb_inl, takeY j2 hT j5 j4 hz2 (k := 1) (by decide) t1, Option.bind_some, gd_pos (by omega)]
  obtain ⟨sc3, hsc3⟩ : ∃ s : Sg, s = cur T sc2 (a + 1 + 1) := ⟨_, rfl⟩
  obtain ⟨m3, hm3⟩ : ∃ s : Sg, s = ax_u2 (adv m2 (a + 1 + 1)) 107 A ((a + 1 : Nat) : Int) := ⟨_, rfl⟩
  have sf3 : SFc sc sc3 := by rw [hsc3]; exact sf2.trans cur_sf
  have sg3 : SFm sm m3 := by rw [hm3]; exact (sg2.trans adv_sf).trans (ro_sf (by decide))
  have k106 : m3 106 A = 2 := by rw [hm3, u2_row _ _ _ (by decide), adv_row (by decide)]; exact g106
  have k107 : m3 107 A = ((a + 1 : Nat) : Int) := by rw [hm3]; exact u2_same _ _ _ _
  rw [← hsc3, ← hm3] at h2
  show AOUT T sc0 sm0 sc sm a S P np w (xb (f_93 1 255 (cur T sc2 (a + 1 + 1))) fun q3 => ((f_155 (T.vl (a + 1)) ((a + 1 : Nat) : Int) 8 q3.2).bind fun q4 => (xb (f_154 23 (q3.2 31 8) q4) fun q5 => some (.inl q5)))) ((f_231 2 (ax_u2 (adv m2 (a + 1 + 1)) 107 A ((a + 1 : Nat) : Int))).bind fun q14 => (gd (0 ≤ (A : Int) ∧ (A : Int) < 8200) ((f_258 0 (ax_u2 (ax_u2 q14.2 108 A q14.1) 84 46 (A : Int))).bind fun q15 => some q15)))
  rw [← hsc3, ← hm3]
  obtain ⟨i1, i2, i3, i4, i5, -⟩ := id h2.1
  have hz3 := i3.2.2
  have i14 : sc3 31 8 = (B : Int) := h2.1.2.2.2.2.2.2.2.2.2.2.2.2.2.1
  have i70 := h2.2.1.1
  have i43 := h2.2.1.2.1
  by_cases t2 : T.tk (a + 1 + 1) = 2
  rotate_left
  · right
    obtain ⟨y1, y2⟩ := fin (tel m3 2 (a + 1 + 1)) 0 (by rw [tel_at]; decide)
    refine ⟨15, sc3, _, by rw [c93n i3 t2, xb_err], Or.inr rfl, ⟨sf3, _, i3⟩, ?_, (sg3.trans tel_sf).trans y2.1, y2.2⟩
    rw [takeN i2 hT i5 i4 hz3 (k := 2) (by decide) (by decide) t2, Option.bind_some, gd_pos (by omega)]
    exact y1
  have z2 := hT.lt hz3 (by rw [t2]; decide)
  obtain ⟨s3, k1, k2, k3, k4⟩ := c93 (lo := 1) (hi := 255) hT i1 i3 t2
  have sf4 : SFc sc3 (cur T s3 (a + 1 + 1 + 1)) := SFc.trans ⟨fun c x => k3 c (by omega), fun j _ _ => by rw [k3 39 (by decide)], k4, fun j _ => by rw [k3 31 (by decide)], W8.same (k3 31 (by decide))⟩ cur_sf
  have cu4 : CU T (cur T s3 (a + 1 + 1 + 1)) (a + 1 + 1 + 1) := cur_cu (by omega)
  have b4 : (cur T s3 (a + 1 + 1 + 1)) 31 8 = (B : Int) := by rw [cur_row (by decide), k3 31 (by decide)]; exact i14
  obtain ⟨s4, n1, n2, n3⟩ := c155 (w := 8) hT (sf4.cc i1) z1 t1 b4 hB8
  obtain ⟨q1, q2, q3, q4, q5, q6, q7, q8⟩ := n2
  have cu5 : CU T s4 (a + 1 + 1 + 1) := ⟨by rw [q7 39 (by decide)]; exact cu4.1, by rw [q7 39 (by decide)]; exact cu4.2.1, cu4.2.2⟩
  have sf5 : SFc sc s4 := (sf3.trans sf4).trans ⟨fun c x => q7 c (by omega), fun j _ _ => by rw [q7 39 (by decide)], q8, q6, W8.of q1 (by omega)⟩
  have p70 : s4 70 9 = (D : Int) := by rw [q7 70 (by decide), cur_row (by decide), k3 70 (by decide)]; exact i70
  rw [k1, xb_inl, takeY i2 hT i5 i4 hz3 (k := 2) (by decide) t2, Option.bind_some, gd_pos (by omega)]
  show AOUT T sc0 sm0 sc sm a S P np w ((f_155 (T.vl (a + 1)) ((a + 1 : Nat) : Int) 8 (cur T s3 (a + 1 + 1 + 1))).bind fun q4 => (xb (f_154 23 ((cur T s3 (a + 1 + 1 + 1)) 31 8) q4) fun q5 => some (.inl q5))) ((f_258 0 (ax_u2 (ax_u2 (adv m3 (a + 1 + 1 + 1)) 108 A ((a + 1 + 1 : Nat) : Int)) 84 46 (A : Int))).bind fun q15 => some q15)
  rw [n1, Option.bind_some, b4]
  obtain ⟨m5, hm5⟩ : ∃ s : Sg, s = ax_u2 (ax_u2 (adv m3 (a + 1 + 1 + 1)) 108 A ((a + 1 + 1 : Nat) : Int)) 84 46 (A : Int) := ⟨_, rfl⟩
  have sg5 : SFm m3 m5 := by rw [hm5]; exact (adv_sf.trans (ro_sf (by decide))).trans (slot_sf (by decide))
  have f5 : m5 84 6 = 0 := by rw [hm5, u2_col _ _ _ (by decide), u2_row _ _ _ (by decide), adv_col (by decide)]; exact i5
  have u5 : m5 84 18 = ((a + 1 + 1 + 1 : Nat) : Int) := by rw [hm5, u2_col _ _ _ (by decide), u2_row _ _ _ (by decide)]; exact adv_at
  have w5 : m5 84 43 = (D : Int) := by rw [hm5, u2_col _ _ _ (by decide), u2_row _ _ _ (by decide), adv_col (by decide)]; exact i43
  rw [← hm5]
  by_cases t3 : T.tk (a + 1 + 1 + 1) = 123 ∧ D < 80
  · left
    have z3 := hT.lt cu5.2.2 (by rw [t3.1]; decide)
    refine ⟨_, _, a + 1 + 1 + 1 + 1, A + 1, N, K, C, B + 1, D + 1, ?_, ?_, by omega, h2.repo hT hp (s4 := s4) t2 t3.1 z3 t3.2 (x := a + 1) z1 t1 (by rw [show a + 1 + 1 - 1 = a + 1 by omega]; exact t1) k106 k107 (by omega) (fun c x => by rw [q7 c (by omega), cur_row (by omega), k3 c (by omega)]) (fun j x => by rw [q8 j x, cur_row (by decide)]; exact k4 j x) (fun j x y => by rw [q7 39 (by decide), cur_col x y, k3 39 (by decide)]) (fun j x => by rw [q6 j x, cur_row (by decide), k3 31 (by decide)]) q1 q2 ?_ (fun i hi => by rw [q4 i hi, cur_row (by decide), k3 38 (by decide)]) (fun i hi => by rw [q5 i hi, cur_row (by decide), k3 37 (by decide)]) ?_⟩
    · rw [c154y hT (sf5.cc h.1.1) cu5 t3.1 p70 t3.2, xb_inl]
      rfl
    · rw [m258y hT (sg5.mc i2) f5 u5 cu5.2.2 t3.1 w5 t3.2 (Or.inl rfl), Option.bind_some, hm5]
    · rw [q3]; decide
    · rw [n3]
      have c1 : CN (cur T s3 (a + 1 + 1 + 1)) ↔ CN s3 := by unfold CN; rw [cur_row (by decide)]
      rw [c1, k2, cur_row (by decide), k3 37 (by decide)]
  · right
    obtain ⟨x, y1, y2⟩ := c154n (T := T) (s := s4) (a := a + 1 + 1 + 1) (b := D) (w := 23) (m := (B : Int)) cu5 p70 (by
      by_cases t4 : T.tk (a + 1 + 1 + 1) = 123
      · exact Or.inr (by
          apply Decidable.byContradiction
          intro hn
          exact t3 ⟨t4, by omega⟩)
      · exact Or.inl t4)
    by_cases t4 : D < 80
    · obtain ⟨mF, y3, y4⟩ := m258n hT (sg5.mc i2) f5 u5 cu5.2.2 (fun e => t3 ⟨e, t4⟩) w5 t4 (x := 0) (Or.inl rfl)
      exact ⟨x, _, mF, by rw [y2, xb_err], y1, ⟨sf5, _, cu5⟩, by rw [y3, Option.bind_some], (sg3.trans sg5).trans y4.1, y4.2⟩
    · exact ⟨x, _, tel m5 3 (a + 1 + 1 + 1), by rw [y2, xb_err], y1, ⟨sf5, _, cu5⟩, by rw [m258d hT f5 u5 cu5.2.2 w5 (by omega), Option.bind_some], (sg3.trans sg5).trans tel_sf, by rw [tel_at]; decide⟩
/-- any action -/
theorem act_sim (hT : TWF T) (hp : POS T) (h : PS1 T sc0 sm0 sc sm a S P A N K C B D np w) (t : T.tk a ≠ 125) : AOUT T sc0 sm0 sc sm a S P np w (f_144 sc) (f_259 (S : Int) sm) := by
  by_cases c1 : T.tk a = 1
  · exact act_asg hT hp h c1
  by_cases c2 : T.tk a = 21
  · exact act_if hT hp h c2
  by_cases c3 : T.tk a = 23
  · exact act_rep hT hp h c3
  by_cases c4 : T.tk a = 24
  · exact act_raise hT hp h c4
  obtain ⟨hS, hA, hz, h8, hC8, hB8, h39, r144, r259⟩ := h.sz hT hp
  have hb := h.begin
  obtain ⟨e1, e2, e3, e4, e5, -⟩ := id hb.1
  right
  have g0 : SFm (ACm sm S A) (ax_u2 (ACm sm S A) 106 A 0) := ro_sf (by decide)
  have f1 : 0 < (ax_u2 (tel (ax_u2 (ACm sm S A) 106 A 0) 2 a) 107 A 0) 84 6 := by rw [u2_row _ _ _ (by decide), tel_at]; decide
  obtain ⟨mF, k1, k2⟩ := fat1 (S := S) (A := A) (d := ((D - 1 : Nat) : Int)) hA f1
  refine ⟨15, ACc sc S, mF, ?_, Or.inr rfl, ⟨ACc_sf, _, e3⟩, ?_, (((ACm_sf.trans g0).trans tel_sf).trans (ro_sf (by decide))).trans k2.1, k2.2⟩
  · rw [r144 t, if_neg (by rw [e3.2.1]; exact c1), if_neg (by rw [e3.2.1]; exact c2), if_neg (by rw [e3.2.1]; exact c3), if_neg (by rw [e3.2.1]; exact c4)]
  · rw [r259, eatN e2 hT e4 hz (k := 21) (by decide) (by decide) c2]
    unfold at1
    rw [if_pos rfl, eatN e2 hT e4 hz (k := 23) (by decide) (by decide) c3]
    rw [if_pos rfl, eatN e2 hT e4 hz (k := 24) (by decide) (by decide) c4]
    rw [if_pos rfl, gd_pos (by omega), Int.toNat_natCast]
    rw [takeN (g0.mc e2) hT (by rw [u2_row _ _ _ (by decide)]; exact e5) (by rw [u2_row _ _ _ (by decide)]; exact e4) hz (k := 1) (by decide) (by decide) c1, Option.bind_some, gd_pos (by omega)]
    dsimp only
    obtain ⟨x1, x2⟩ := eat_f (K := 15) f1
    rw [gd_pos x2, x1, Option.bind_some, if_pos rfl]
    exact k1
end REPA
/-! A BODY is closed. -/
section CLO
variable {T : TT} {sc0 sm0 sc sm sc' sm' s2 m : Sg} {a b a1 a' S P A N N' K K' C C' B B' D D' M np w F : Nat}
/-- the class's side: what '}' leaves -/
def CLd (T : TT) (sc s2 : Sg) (a B D M : Nat) : Prop := s2 31 8 = (M : Int) ∧ (∀ j, j ≠ 8 → s2 31 j = sc 31 j) ∧ (∀ c, ¬ (c = 31 ∨ c = 37 ∨ c = 39 ∨ c = 70) → s2 c = sc c) ∧ s2 70 9 = ((D - 1 : Nat) : Int) ∧ (∀ j, j ≠ 10 → j ≠ 11 → s2 39 j = sc 39 j) ∧ CU T s2 (a + 1) ∧ (∀ i, M ≤ i → i < B → 0 ≤ sc 38 i → sc 38 i < 4112 → s2 37 (sc 38 i).toNat = 0) ∧ (∀ id : Nat, (∀ i, M ≤ i → i < B → sc 38 i ≠ (id : Int)) → s2 37 id = sc 37 id)
theorem CLd.sf (h : CLd T sc s2 a B D M) (hM : M ≤ 4112) : SFc sc s2 := by
  obtain ⟨h1, h2, h3, h4, h5, h6, h7, h8⟩ := h
  exact ⟨fun c x => h3 c (by omega), h5, fun j _ => by rw [h3 30 (by decide)], h2, W8.of h1 hM⟩
theorem c146 (hT : TWF T) (hc : CC T sc) (hu : CU T sc a) (t : T.tk a = 125) (hB : sc 31 8 = (B : Int)) (hB8 : B ≤ 4112) (hD : sc 70 9 = (D : Int)) (d1 : 1 ≤ D) (d8 : D ≤ 80) (hM : sc 72 (D - 1) = (M : Int)) (hMB : M ≤ B) :
    ∃ s2 : Sg, CLd T sc s2 a B D M ∧ f_146 sc = (if ¬ (s2 71 (D - 1)) = 21 then some (.inl s2) else if ¬ T.tk (a + 1) = 22 then some (.inl s2) else gd (g_94 s2) ((some (f_94 s2)).bind fun q3 => (xb (f_154 22 (M : Int) q3) fun q4 => some (.inl q4)))) := by
  have z0 := hT.lt hu.2.2 (by rw [t]; decide)
  obtain ⟨q1, hq1⟩ : ∃ s : Sg, s = cur T sc (a + 1) := ⟨_, rfl⟩
  have r1 : ∀ c, c ≠ 39 → q1 c = sc c := fun c x => by rw [hq1, cur_row x]
  have w1 : ax_w32 (q1 70 9 - 1) = ((D - 1 : Nat) : Int) := by rw [r1 70 (by decide), hD, w32_id (by omega) (by omega)]; omega
  obtain ⟨q0, hq0⟩ : ∃ s : Sg, s = ax_u2 q1 70 9 ((D - 1 : Nat) : Int) := ⟨_, rfl⟩
  have r0 : ∀ c, c ≠ 39 → c ≠ 70 → q0 c = sc c := fun c x y => by rw [hq0, u2_row _ _ _ y, r1 c x]
  obtain ⟨s2, k1, k2, k3, k4, k5, k6⟩ := c102 (s := q0) (M := M) (B := B) hMB hB8 (by rw [r0 31 (by decide) (by decide)]; exact hB)
  rw [r0 38 (by decide) (by decide)] at k5 k6
  have c70 : s2 70 9 = ((D - 1 : Nat) : Int) := by rw [k4 70 (by decide) (by decide), hq0]; exact u2_same _ _ _ _
  have cu : CU T (cur T sc (a + 1)) (a + 1) := cur_cu (by omega)
  have r39 : s2 39 = (cur T sc (a + 1)) 39 := by rw [k4 39 (by decide) (by decide), hq0, u2_row _ _ _ (by decide), hq1]
  have cu2 : CU T s2 (a + 1) := ⟨by rw [r39]; exact cu.1, by rw [r39]; exact cu.2.1, cu.2.2⟩
  refine ⟨s2, ⟨k2, fun j x => by rw [k3 j x, r0 31 (by decide) (by decide)], fun c x => by rw [k4 c (by omega) (by omega), r0 c (by omega) (by omega)], c70, fun j x y => by rw [r39, cur_col x y], cu2, k5, fun id x => by rw [k6 id x, r0 37 (by decide) (by decide)]⟩, ?_⟩
  unfold f_146
  rw [nxt hT hc hu (by rw [t]; decide), ← hq1, w1, ← hq0, Int.toNat_natCast, r1 72 (by decide), hM, k1, Option.bind_some]
  rw [if_neg (by rw [r1 70 (by decide), hD]; omega), if_pos (by rw [r1 70 (by decide), hD]; omega), gd_pos (by omega), c70, gd_pos (by omega), Int.toNat_natCast, cu2.2.1]
/-- an else's body is opened -/
theorem PS1.els (hT : TWF T) (hp : POS T) (h : PS1 T sc0 sm0 sc sm b S P A N K C B D np w) (t : T.tk b = 22) (t1 : T.tk (b - 1) = 125) (t2 : T.tk (b + 1) = 123) (hz : b + 1 < T.z) (hD : D < 80) : PS1 T sc0 sm0 (OBc T (cur T sc (b + 1)) D 22 (B : Int) (b + 1)) (OBm (adv sm (b + 1)) D 0 (b + 1)) (b + 1 + 1) S P A N K C B (D + 1) np w := by
  obtain ⟨h1, h2, h3, h4⟩ := h
  obtain ⟨e1, e2, e3, e4, e5, e6, e7, e8, e9, e10, e11, e12, e13, e14, e15, e16, e17, e18, e19, e20, e21, e22, e23, e24, e25, e26, e27, e28, e29, e30, e31⟩ := id h1
  obtain ⟨o1, o2, o3, o4, o5, o6, o7⟩ := OBc_at (T := T) (s := cur T sc (b + 1)) (D := D) (wd := 22) (mk := (B : Int)) (b := b + 1) (by omega)
  obtain ⟨l1, l2, l3, l4, l5, l6⟩ := OBm_at (m := adv sm (b + 1)) (D := D) (x := 0) (b := b + 1)
  obtain ⟨sF, hsF⟩ : ∃ s : Sg, s = OBc T (cur T sc (b + 1)) D 22 (B : Int) (b + 1) := ⟨_, rfl⟩
  obtain ⟨mF, hmF⟩ : ∃ s : Sg, s = OBm (adv sm (b + 1)) D 0 (b + 1) := ⟨_, rfl⟩
  have rc : ∀ c, ¬ (c = 39 ∨ 70 ≤ c ∧ c ≤ 72) → sF c = sc c := fun c y => by rw [hsF, OBc_row (by omega), cur_row (by omega)]
  have rm : ∀ c, ¬ (c = 84 ∨ c = 114 ∨ c = 115) → mF c = sm c := fun c y => by rw [hmF, OBm_row (by omega), adv_row (by omega)]
  have r8 : ∀ j, j ≠ 18 → j ≠ 43 → mF 84 j = sm 84 j := fun j y z => by rw [hmF, OBm_84 y z, adv_col y]
  rw [← hsF] at o1 o2 o3 o4 o5 o6 o7
  rw [← hmF] at l1 l2 l3 l4 l5 l6
  rw [← hsF, ← hmF]
  have hd := h3.2.2.2.2.2
  have d1 := h2.2.2.1
  have cn : CN sF ↔ CN sc := by unfold CN; rw [rc 30 (by decide)]
  have pz := hp.add (k := b) 2 (by omega)
  rw [show b + 2 = b + 1 + 1 by omega] at pz
  have hd1 : dpt T (b + 1) = (D : Int) := by rw [dpt_n (by rw [t]; decide) (by rw [t]; decide)]; exact hd
  refine ⟨?_, ?_, ?_, Or.inl (by rw [show b + 1 + 1 - 1 = b + 1 by omega]; exact t2)⟩
  · refine PXB.ps (h1.px.gen (B' := B) (fun c y => rc c (by omega)) (fun j y z => by rw [o2 j y z, cur_col y z]) (fun j _ => by rw [rc 30 (by decide)]) (fun j _ => by rw [rc 31 (by decide)]) (by rw [rc 31 (by decide)]; exact e14) (by rw [rc 61 (by decide)]; exact e13) (fun c j y z u => by rw [rc c (by omega)]) (fun i hi => by rw [rc 59 (by decide), rm 102 (by decide)]; exact e18 i hi) o1 (fun c y => rm c (by omega)) (fun c i y z _ => by rw [rm c (by omega)]) (fun j y _ z _ => r8 j y z) l1 (by rw [r8 34 (by decide) (by decide)]; exact e12) (Nat.le_refl _) (Nat.le_refl _) (fun _ y z => absurd z (by omega)) (fun _ y z => absurd z (by omega)) (fun _ _ y z => absurd z (by omega)) (fun _ y z => absurd z (by omega)) ⟨fun y => ⟨cn.mp y, fun _ y z => absurd z (by omega)⟩, fun y => cn.mpr y.1⟩ (by omega) (fun k y z => ?_) (by omega) (by omega) (by omega))
    by_cases c1 : k = b
    · rw [c1]
      exact ⟨Or.inr (Or.inr (Or.inr (Or.inr (Or.inr (Or.inr ⟨t1, t⟩))))), STT.deep (by rw [t]; decide) (by omega)⟩
    · rw [show k = b + 1 by omega, show b + 1 - 1 = b by omega, t, t2]
      exact ⟨Or.inr (Or.inr (Or.inl (by decide))), STT.deep (by rw [t2]; decide) (by omega)⟩
  · exact h2.push (wd := 22) (x := 0) (Nat.le_refl _) hD o3 (fun i hi => by rw [o6 i hi, cur_row (by decide)]) o4 (fun i hi => by rw [o7 i hi, cur_row (by decide)]) o5 (by rw [rc 31 (by decide)]) (rc 38 (by decide)) (rc 37 (by decide)) l2 (r8 46 (by decide) (by decide)) (fun i hi => by rw [l5 i hi, adv_row (by decide)]) l3 (fun i hi => by rw [l6 i hi, adv_row (by decide)]) (by rw [l4, adv_col (by decide)]) (by rw [rm 98 (by decide)]) (by rw [rm 99 (by decide)]) (rm 104 (by decide)) (rm 105 (by decide)) (fun i _ => ⟨by rw [rm 107 (by decide)], by rw [rm 113 (by decide)]⟩) (fun i _ => by rw [rm 106 (by decide)]) (Or.inl rfl) (by decide) cn.mp
  · refine h3.cg hp (rc 60 (by decide)) (rm 103 (by decide)) (rm 94 (by decide)) (r8 19 (by decide) (by decide)) (by omega) (by omega) ?_
    have e2 : dpt T (b + 1 + 1) = dpt T (b + 1) + (if T.tk (b + 1) = 123 then 1 else if T.tk (b + 1) = 125 then -1 else 0) := rfl
    rw [e2, if_pos t2, hd1]
    omega
/-- what '}' leaves of all but the bodies -/
theorem PS1.cls (hT : TWF T) (hp : POS T) (h : PS1 T sc0 sm0 sc sm a S P A N K C B D np w) (t : T.tk a = 125) (hMB : M ≤ B) (k : CLd T sc s2 a B D M) {x y : Int} : PSB T sc0 sm0 s2 (ax_u2 (ax_u2 (adv sm (a + 1)) 84 43 x) 84 46 y) (a + 1) (S + 1) P A N K C M w := by
  obtain ⟨h1, h2, h3, h4⟩ := h
  obtain ⟨e1, e2, e3, e4, e5, e6, e7, e8, e9, e10, e11, e12, e13, e14, e15, e16, e17, e18, e19, e20, e21, e22, e23, e24, e25, e26, e27, e28, e29, e30, e31⟩ := id h1
  obtain ⟨k1, k2, k3, k4, k5, k6, k7, k8⟩ := k
  have hz := hT.lt e3.2.2 (by rw [t]; decide)
  have pz := hp.1 a hz
  have hd := h3.2.2.2.2.2
  have d1 := h2.2.2.1
  have cn : CN s2 ↔ CN sc := by unfold CN; rw [k3 30 (by decide)]
  have rm : ∀ c, c ≠ 84 → (ax_u2 (ax_u2 (adv sm (a + 1)) 84 43 x) 84 46 y) c = sm c := fun c u => by rw [u2_row _ _ _ u, u2_row _ _ _ u, adv_row u]
  have r8 : ∀ j, j ≠ 18 → j ≠ 43 → j ≠ 46 → (ax_u2 (ax_u2 (adv sm (a + 1)) 84 43 x) 84 46 y) 84 j = sm 84 j := fun j u v z => by rw [u2_col _ _ _ z, u2_col _ _ _ v, adv_col u]
  refine PXB.ps (h1.px.gen (B' := M) (fun c y => k3 c (by omega)) k5 (fun j _ => by rw [k3 30 (by decide)]) k2 k1 (by rw [k3 61 (by decide)]; exact e13) (fun c j y z u => by rw [k3 c (by omega)]) (fun i hi => by rw [k3 59 (by decide), rm 102 (by decide)]; exact e18 i hi) k6 (fun c y => rm c (by omega)) (fun c i y z _ => by rw [rm c (by omega)]) (fun j y _ z u => r8 j y z u) (by rw [u2_col _ _ _ (by decide), u2_col _ _ _ (by decide)]; exact adv_at) (by rw [r8 34 (by decide) (by decide) (by decide)]; exact e12) (Nat.le_refl _) (Nat.le_refl _) (fun _ y z => absurd z (by omega)) (fun _ y z => absurd z (by omega)) (fun _ _ y z => absurd z (by omega)) (fun _ y z => absurd z (by omega)) ⟨fun y => ⟨cn.mp y, fun _ y z => absurd z (by omega)⟩, fun y => cn.mpr y.1⟩ (by omega) (fun k y z => ?_) (by omega) (by omega) (by omega))
  rw [show k = a by omega]
  exact ⟨Or.inr (Or.inr (Or.inr (Or.inr (Or.inr (Or.inl ⟨by rcases h4 with u | u | u <;> simp [u], by simp [t]⟩))))), STT.deep (by rw [t]; decide) (by omega)⟩
theorem dpt_c (t : T.tk a = 125) (h : dpt T a = (D : Int)) (hD : 1 ≤ D) : dpt T (a + 1) = ((D - 1 : Nat) : Int) := by
  have e2 : dpt T (a + 1) = dpt T a + (if T.tk a = 123 then 1 else if T.tk a = 125 then -1 else 0) := rfl
  rw [e2, if_neg (by rw [t]; decide), if_pos t, h]
  omega
theorem PS1.pop (hT : TWF T) (hp : POS T) (h : PS1 T sc0 sm0 sc sm a S P A N K C B D np w) (t : T.tk a = 125) (hD : 2 ≤ D) (hM : sc 72 (D - 1) = (M : Int)) (k : CLd T sc s2 a B D M) : PS1 T sc0 sm0 s2 (ax_u2 (ax_u2 (adv sm (a + 1)) 84 43 ((D - 1 : Nat) : Int)) 84 46 (sm 115 (D - 2))) (a + 1) S P A N K C M (D - 1) np w := by
  have hMB := (h.2.1.2.2.2.2.2.1 (D - 1) (by omega)).2.1
  have x1 := h.cls hT hp t (by omega) k (x := ((D - 1 : Nat) : Int)) (y := sm 115 (D - 2))
  have cu := k.2.2.2.2.2.1
  obtain ⟨h1, h2, h3, h4⟩ := h
  have rm : ∀ c, c ≠ 84 → (ax_u2 (ax_u2 (adv sm (a + 1)) 84 43 ((D - 1 : Nat) : Int)) 84 46 (sm 115 (D - 2))) c = sm c := fun c u => by rw [u2_row _ _ _ u, u2_row _ _ _ u, adv_row u]
  have r8 : ∀ j, j ≠ 18 → j ≠ 43 → j ≠ 46 → (ax_u2 (ax_u2 (adv sm (a + 1)) 84 43 ((D - 1 : Nat) : Int)) 84 46 (sm 115 (D - 2))) 84 j = sm 84 j := fun j u v z => by rw [u2_col _ _ _ z, u2_col _ _ _ v, adv_col u]
  obtain ⟨k1, k2, k3, k4, k5, k6, k7, k8⟩ := k
  refine ⟨x1, ?_, ?_, Or.inr (Or.inr (by rw [show a + 1 - 1 = a by omega]; exact t))⟩
  · refine h2.pop hT hD hM k4 (k3 71 (by decide)) (k3 72 (by decide)) k1 (k3 38 (by decide)) k7 k8 (by rw [u2_col _ _ _ (by decide)]; exact u2_same _ _ _ _) (u2_same _ _ _ _) rm (fun y => ?_)
    unfold CN at *
    rw [k3 30 (by decide)] at y
    exact y
  · exact h3.cg hp (k3 60 (by decide)) (rm 103 (by decide)) (rm 94 (by decide)) (r8 19 (by decide) (by decide) (by decide)) (by omega) cu.2.2 (dpt_c t h3.2.2.2.2.2 (by omega))
end CLO
