/-! AN ACTION: if. -/
section IFA
variable {T : TT} {sc0 sm0 sc sm sc' sm' m : Sg} {a b a1 a' S P A N N' K K' C C' B B' D D' np w : Nat}
theorem OBm_row {x : Int} {c : Nat} (h : ¬ (c = 84 ∨ c = 114 ∨ c = 115)) : OBm m D x b c = m c := by
  unfold OBm
  rw [u2_row _ _ _ (by omega), u2_row _ _ _ (by omega), u2_row _ _ _ (by omega), adv_row (by omega)]
theorem OBm_84 {x : Int} {j : Nat} (h : j ≠ 18) (h2 : j ≠ 43) : OBm m D x b 84 j = m 84 j := by
  unfold OBm
  rw [u2_col _ _ _ h2, u2_row _ _ _ (by decide), u2_row _ _ _ (by decide), adv_col h]
theorem OBm_at {x : Int} : OBm m D x b 84 18 = ((b + 1 : Nat) : Int) ∧ OBm m D x b 84 43 = ((D + 1 : Nat) : Int) ∧ OBm m D x b 114 D = x ∧ OBm m D x b 115 D = m 84 46 ∧ (∀ i, i ≠ D → OBm m D x b 114 i = m 114 i) ∧ (∀ i, i ≠ D → OBm m D x b 115 i = m 115 i) := by
  unfold OBm
  refine ⟨?_, u2_same _ _ _ _, ?_, ?_, fun i hi => ?_, fun i hi => ?_⟩
  · rw [u2_col _ _ _ (by decide), u2_row _ _ _ (by decide), u2_row _ _ _ (by decide), adv_at]
  · rw [u2_row _ _ _ (by decide), u2_row _ _ _ (by decide)]; exact u2_same _ _ _ _
  · rw [u2_row _ _ _ (by decide)]; exact u2_same _ _ _ _
  · rw [u2_row _ _ _ (by decide), u2_row _ _ _ (by decide), u2_col _ _ _ hi, adv_row (by decide)]
  · rw [u2_row _ _ _ (by decide), u2_col _ _ _ hi, u2_row _ _ _ (by decide), adv_row (by decide)]
theorem OBm_sf {x : Int} : SFm m (OBm m D x b) := ⟨fun c x => OBm_row (by omega), fun j x => OBm_84 (by omega) (by omega)⟩
/-- the class's side -/
def OBc (T : TT) (s : Sg) (D : Nat) (wd mk : Int) (b : Nat) : Sg := ax_u2 (ax_u2 (ax_u2 (cur T s (b + 1)) 71 D wd) 72 D mk) 70 9 ((D + 1 : Nat) : Int)
theorem OBc_row {s : Sg} {wd mk : Int} {c : Nat} (h : ¬ (c = 39 ∨ 70 ≤ c ∧ c ≤ 72)) : OBc T s D wd mk b c = s c := by
  unfold OBc
  rw [u2_row _ _ _ (by omega), u2_row _ _ _ (by omega), u2_row _ _ _ (by omega), cur_row (by omega)]
theorem OBc_at {s : Sg} {wd mk : Int} (hb : b + 1 ≤ T.z) : CU T (OBc T s D wd mk b) (b + 1) ∧ (∀ j, j ≠ 10 → j ≠ 11 → OBc T s D wd mk b 39 j = s 39 j) ∧ OBc T s D wd mk b 70 9 = ((D + 1 : Nat) : Int) ∧ OBc T s D wd mk b 71 D = wd ∧ OBc T s D wd mk b 72 D = mk ∧ (∀ i, i ≠ D → OBc T s D wd mk b 71 i = s 71 i) ∧ (∀ i, i ≠ D → OBc T s D wd mk b 72 i = s 72 i) := by
  have r : ∀ c, c < 70 → OBc T s D wd mk b c = (cur T s (b + 1)) c := fun c x => by
    unfold OBc
    rw [u2_row _ _ _ (by omega), u2_row _ _ _ (by omega), u2_row _ _ _ (by omega)]
  have cu := cur_cu (T := T) (s := s) hb
  refine ⟨⟨by rw [r 39 (by decide)]; exact cu.1, by rw [r 39 (by decide)]; exact cu.2.1, hb⟩, fun j x y => by rw [r 39 (by decide), cur_col x y], ?_, ?_, ?_, fun i hi => ?_, fun i hi => ?_⟩
  · unfold OBc; exact u2_same _ _ _ _
  · unfold OBc; rw [u2_row _ _ _ (by decide), u2_row _ _ _ (by decide)]; exact u2_same _ _ _ _
  · unfold OBc; rw [u2_row _ _ _ (by decide)]; exact u2_same _ _ _ _
  · unfold OBc; rw [u2_row _ _ _ (by decide), u2_row _ _ _ (by decide), u2_col _ _ _ hi, cur_row (by decide)]
  · unfold OBc; rw [u2_row _ _ _ (by decide), u2_col _ _ _ hi, u2_row _ _ _ (by decide), cur_row (by decide)]
/-- a claim of an if -/
def CIc (s : Sg) (C : Nat) (x y : Int) : Sg := ax_u2 (ax_u2 (ax_u2 (ax_u2 (ax_u2 s 62 C x) 63 C (-1)) 64 C y) 65 C 1) 61 4 ((C + 1 : Nat) : Int)
theorem CIc_row {s : Sg} {x y : Int} {c : Nat} (h : ¬ (61 ≤ c ∧ c ≤ 65)) : CIc s C x y c = s c := by
  unfold CIc
  rw [u2_row _ _ _ (by omega), u2_row _ _ _ (by omega), u2_row _ _ _ (by omega), u2_row _ _ _ (by omega), u2_row _ _ _ (by omega)]
theorem CIc_at {s : Sg} {x y : Int} : CIc s C x y 61 4 = ((C + 1 : Nat) : Int) ∧ CIc s C x y 62 C = x ∧ CIc s C x y 63 C = -1 ∧ CIc s C x y 64 C = y ∧ CIc s C x y 65 C = 1 ∧ (∀ c j, 62 ≤ c → c ≤ 65 → j ≠ C → CIc s C x y c j = s c j) := by
  unfold CIc
  refine ⟨by simp [ax_u2], by simp [ax_u2], by simp [ax_u2], by simp [ax_u2], by simp [ax_u2], fun c j u v e => ?_⟩
  have n1 : c ≠ 61 := by omega
  simp [ax_u2, e, n1]
theorem CIc_sf {s : Sg} {x y : Int} : SFc s (CIc s C x y) := ⟨fun c x => CIc_row (by omega), fun j _ _ => by rw [CIc_row (by decide)], fun j _ => by rw [CIc_row (by decide)], fun j _ => by rw [CIc_row (by decide)], W8.same (CIc_row (by decide))⟩
theorem PIA.ifo (hp : POS T) (h : PIA T sc0 sm0 sc sm b S P A N K C B D np w) (t : T.tk b = 123) (hz : b < T.z) (hD : D < 80) {x : Nat} (hx : x < T.z) (hN : 1 ≤ N) (h106 : sm 106 A = 1) (h110 : sm 110 A = (N : Int) - 1) (h111 : sm 111 A = (x : Int)) (hpv : T.tk (b - 1) ∈ opB) (hC : 4 * ((C + 1 : Nat) : Int) ≤ T.fm (b + 1)) : PS1 T sc0 sm0 (OBc T (CIc sc C (x : Int) ((N : Int) - 1)) D 21 (B : Int) b) (OBm sm D 1 b) (b + 1) S P (A + 1) N K (C + 1) B (D + 1) np w := by
  obtain ⟨h1, h2, h3, h4, h5⟩ := h
  obtain ⟨e1, e2, e3, e4, e5, e6, e7, e8, e9, e10, e11, e12, e13, e14, e15, e16, e17, e18, e19, e20, e21, e22, e23, e24, e25, e26, e27, e28, e29, e30, e31⟩ := id h1
  obtain ⟨k1, k2, k3, k4, k5, k6, k7⟩ := OBc_at (T := T) (s := CIc sc C (x : Int) ((N : Int) - 1)) (D := D) (wd := 21) (mk := (B : Int)) (b := b) (by omega)
  obtain ⟨l1, l2, l3, l4, l5, l6⟩ := OBm_at (m := sm) (D := D) (x := 1) (b := b)
  obtain ⟨c1, c2, c3, c4, c5, c6⟩ := CIc_at (s := sc) (C := C) (x := (x : Int)) (y := (N : Int) - 1)
  obtain ⟨sF, hsF⟩ : ∃ s : Sg, s = OBc T (CIc sc C (x : Int) ((N : Int) - 1)) D 21 (B : Int) b := ⟨_, rfl⟩
  obtain ⟨mF, hmF⟩ : ∃ s : Sg, s = OBm sm D 1 b := ⟨_, rfl⟩
  have rc : ∀ c, ¬ (c = 39 ∨ 61 ≤ c ∧ c ≤ 65 ∨ 70 ≤ c ∧ c ≤ 72) → sF c = sc c := fun c y => by rw [hsF, OBc_row (by omega), CIc_row (by omega)]
  have rk : ∀ c, 61 ≤ c → c ≤ 65 → sF c = CIc sc C (x : Int) ((N : Int) - 1) c := fun c y z => by rw [hsF, OBc_row (by omega)]
  have rm : ∀ c, ¬ (c = 84 ∨ c = 114 ∨ c = 115) → mF c = sm c := fun c y => by rw [hmF, OBm_row (by omega)]
  have r8 : ∀ j, j ≠ 18 → j ≠ 43 → mF 84 j = sm 84 j := fun j y z => by rw [hmF, OBm_84 y z]
  rw [← hsF] at k1 k2 k3 k4 k5 k6 k7
  rw [← hmF] at l1 l2 l3 l4 l5 l6
  rw [← hsF, ← hmF]
  have hd := h3.2.2.2.2.2
  have d1 := h2.2.2.1
  have hr := h2.rep
  have cn : CN sF ↔ CN sc := by unfold CN; rw [rc 30 (by decide)]
  have q106 : mF 106 A = 1 := by rw [rm 106 (by decide)]; exact h106
  have arl : ARL T mF (S + 1) N A := by
    refine ⟨S, by rw [rm 112 (by decide)]; exact h4, by omega, by rw [rm 94 (by decide)]; exact h3.2.2.2.2.1, by rw [rm 113 (by decide), h5]; exact hr.1, by rw [rm 113 (by decide), h5]; exact hr.2.1, by rw [rm 113 (by decide), h5, rm 106 (by decide)]; exact hr.2.2, Or.inr (Or.inl ⟨q106, ⟨N - 1, by rw [rm 110 (by decide), h110]; omega, by omega⟩, ⟨x, by rw [rm 111 (by decide)]; exact h111, hx⟩⟩)⟩
  have gac : GAC T mF A := by
    unfold GAC
    rw [q106]
    exact ⟨fun z => absurd z (by decide), fun z => absurd z (by decide), fun z => absurd z (by decide)⟩
  have cl : sF 62 C = mF 111 A ∧ sF 63 C = -1 ∧ sF 64 C = mF 110 A ∧ sF 65 C = 1 := by
    rw [rk 62 (by decide) (by decide), rk 63 (by decide) (by decide), rk 64 (by decide) (by decide), rk 65 (by decide) (by decide), rm 111 (by decide), rm 110 (by decide), h110, h111]
    exact ⟨c2, c3, c4, c5⟩
  refine ⟨?_, ?_, ?_, Or.inl (by rw [show b + 1 - 1 = b by omega]; exact t)⟩
  · refine PXB.ps (h1.gen (B' := B) (fun c y => rc c (by omega)) (fun j y z => by rw [k2 j y z, CIc_row (by decide)]) (fun j _ => by rw [rc 30 (by decide)]) (fun j _ => by rw [rc 31 (by decide)]) (by rw [rc 31 (by decide)]; exact e14) (by rw [rk 61 (by decide) (by decide)]; exact c1) (fun c j y z u => by rw [rk c (by omega) (by omega)]; exact c6 c j y z (by omega)) (fun i hi => by rw [rc 59 (by decide), rm 102 (by decide)]; exact e18 i hi) k1 (fun c y => rm c (by omega)) (fun c i y z _ => by rw [rm c (by omega)]) (fun j y _ z _ => r8 j y z) l1 (by rw [r8 34 (by decide) (by decide)]; exact e12) (by omega) (by omega) (fun i y z => by rw [show i = A by omega]; exact arl) (fun c y z => by rw [show c = C by omega]; exact Or.inr (Or.inl ⟨A, by omega, q106, cl⟩)) (fun _ i y z u => by rw [show i = A by omega, q106] at u; exact absurd u (by decide)) (fun i y z _ => by rw [show i = A by omega]; exact ⟨C, by omega, cl⟩) ⟨fun y => ⟨cn.mp y, fun i u v => by rw [show i = A by omega]; exact gac⟩, fun y => cn.mpr y.1⟩ (by omega) (fun k y z => ?_) hC (by omega) (by omega))
    rw [show k = b by omega]
    exact ⟨Or.inr (Or.inl ⟨hpv, Or.inr t⟩), STT.deep (by rw [t]; decide) (by omega)⟩
  · exact h2.push (wd := 21) (x := 1) (by omega) hD k3 (fun i hi => by rw [k6 i hi, CIc_row (by decide)]) k4 (fun i hi => by rw [k7 i hi, CIc_row (by decide)]) k5 (by rw [rc 31 (by decide)]) (rc 38 (by decide)) (rc 37 (by decide)) l2 (r8 46 (by decide) (by decide)) l5 l3 l6 l4 (by rw [rm 98 (by decide)]) (by rw [rm 99 (by decide)]) (rm 104 (by decide)) (rm 105 (by decide)) (fun i _ => ⟨by rw [rm 107 (by decide)], by rw [rm 113 (by decide)]⟩) (fun i _ => by rw [rm 106 (by decide)]) (Or.inr rfl) (by decide) cn.mp
  · refine h3.cg hp (rc 60 (by decide)) (rm 103 (by decide)) (rm 94 (by decide)) (r8 19 (by decide) (by decide)) (by omega) (by omega) ?_
    simp only [dpt]
    rw [if_pos t, hd]
    omega
theorem act_if (hT : TWF T) (hp : POS T) (h : PS1 T sc0 sm0 sc sm a S P A N K C B D np w) (t0 : T.tk a = 21) : AOUT T sc0 sm0 sc sm a S P np w (f_144 sc) (f_259 (S : Int) sm) := by
  obtain ⟨hS, hA, hz, h8, hC8, hB8, h39, r144, r259⟩ := h.sz hT hp
  have hb := h.begin
  have htl := h.2.2.2
  have hAa : A ≤ a := h.1.2.2.2.2.2.2.2.2.2.2.2.2.2.2.2.2.2.2.2.2.2.2.2.1
  have hCa : 4 * (C : Int) ≤ T.fm a := h.1.2.2.2.2.2.2.2.2.2.2.2.2.2.2.2.2.2.2.2.2.1
  obtain ⟨sc1, hsc1⟩ : ∃ s : Sg, s = ACc sc S := ⟨_, rfl⟩
  obtain ⟨m1, hm1⟩ : ∃ s : Sg, s = ACm sm S A := ⟨_, rfl⟩
  have sf1 : SFc sc sc1 := by rw [hsc1]; exact ACc_sf
  have sg1 : SFm sm m1 := by rw [hm1]; exact ACm_sf
  have v109 : m1 109 A = -1 := by rw [hm1]; exact ACm_A.2.2.2.1
  rw [← hsc1, ← hm1] at hb
  rw [← hsc1] at r144
  rw [← hm1] at r259
  rw [r144 (by rw [t0]; decide), r259]
  obtain ⟨e1, e2, e3, e4, e5, -⟩ := id hb.1
  have z0 := hT.lt hz (by rw [t0]; decide)
  rw [if_neg (by rw [e3.2.1, t0]; decide), if_pos (by rw [e3.2.1, t0])]
  rw [eatY e2 hT e5 e4 hz (k := 21) (by decide) t0]
  have h1 := ((hb.tok hp z0 (Or.inr (Or.inr (Or.inr (Or.inr (Or.inr (Or.inl ⟨by rcases htl with x | x | x <;> simp [x], by simp [t0]⟩)))))) (by rw [t0]; decide) (by rw [t0]; decide) (by rw [t0]; decide)).row (c := 106) (v := 1) hp (by decide)).row (c := 111) (v := ((a + 1 : Nat) : Int)) hp (by decide)
  obtain ⟨sc2, hsc2⟩ : ∃ s : Sg, s = cur T sc1 (a + 1) := ⟨_, rfl⟩
  obtain ⟨m2, hm2⟩ : ∃ s : Sg, s = ax_u2 (ax_u2 (adv m1 (a + 1)) 106 A 1) 111 A ((a + 1 : Nat) : Int) := ⟨_, rfl⟩
  have sf2 : SFc sc sc2 := by rw [hsc2]; exact sf1.trans cur_sf
  have sg2 : SFm sm m2 := by rw [hm2]; exact ((sg1.trans adv_sf).trans (ro_sf (by decide))).trans (ro_sf (by decide))
  have g106 : m2 106 A = 1 := by rw [hm2, u2_row _ _ _ (by decide)]; exact u2_same _ _ _ _
  have g111 : m2 111 A = ((a + 1 : Nat) : Int) := by rw [hm2]; exact u2_same _ _ _ _
  rw [← hsc2, ← hm2] at h1
  have rm : at1 (S : Int) (A : Int) ((D - 1 : Nat) : Int) ((1 : Int), adv m1 (a + 1)) = (f_257 (S : Int) ((D - 1 : Nat) : Int) m2).bind fun q16 => (gd (0 ≤ (A : Int) ∧ (A : Int) < 8200) ((f_258 1 (ax_u2 q16.2 110 A q16.1)).bind fun q17 => some q17)) := by
    unfold at1
    rw [if_neg (by simp), gd_pos (by omega), gd_pos (by omega), Int.toNat_natCast, hm2]
    dsimp only
    rw [adv_at]
  rw [rm]
  have rc : f_148 sc1 = (xb (f_45 100 (ax_w32 ((sc2 70 9) - 1)) sc2) fun q2 => ((f_38 (sc2 39 10) (q2 66 8) 1 q2).bind fun q3 => (xb (f_154 21 (q3 31 8) q3) fun q4 => some (.inl q4)))) := by
    unfold f_148
    rw [nxt hT e1 e3 (by rw [t0]; decide), hsc2]
  rw [rc]
  obtain ⟨j1, j2, j3, j4, j5, -⟩ := id h1.1
  have hc2 : sc2 61 4 = (C : Int) := h1.1.2.2.2.2.2.2.2.2.2.2.2.2.1
  have h70 := h1.2.1.1
  have d8 := h1.2.1.2.2.2.1
  have hz2 := j3.2.2
  rw [h1.dw, j3.1]
  have e38 : ∀ (s : Sg) (y : Int), s 61 4 = (C : Int) → f_38 ((a + 1 : Nat) : Int) y 1 s = some (CIc s C ((a + 1 : Nat) : Int) y) := fun s y hy => by
    rw [c38 hy (by omega)]
    rfl
  rcases h1.expr hT hp (by rw [show a + 1 - 1 = a by omega, t0]; decide) with ⟨sc', sm', a', N', K', x1, x2, x3, x4⟩ | ⟨sc', mF, a', x1, x2, y2, y3, y4, x3, x4, x5, x6⟩ | ⟨x, sc', mF, x1, x2, x3, x4, x5⟩
  rotate_left
  · right
    obtain ⟨x, z1, z2⟩ := c154n (T := T) (s := CIc sc' C ((a + 1 : Nat) : Int) (sc' 66 8)) (a := a') (b := D) (w := 21) (m := (CIc sc' C ((a + 1 : Nat) : Int) (sc' 66 8)) 31 8) ⟨by rw [CIc_row (by decide)]; exact x3.1, by rw [CIc_row (by decide)]; exact x3.2.1, x3.2.2⟩ (by rw [CIc_row (by decide), y2]; exact h70) (Or.inl (by rcases x4 with y | y | y <;> rw [y] <;> decide))
    refine ⟨x, CIc sc' C ((a + 1 : Nat) : Int) (sc' 66 8), ax_u2 mF 110 A 0, ?_, z1, ⟨(sf2.trans x2).trans CIc_sf, a', by rw [CIc_row (by decide)]; exact x3.1, by rw [CIc_row (by decide)]; exact x3.2.1, x3.2.2⟩, ?_, (sg2.trans x6.1).trans (ro_sf (by decide)), by rw [u2_row _ _ _ (by decide)]; exact x6.2⟩
    · rw [x1, xb_inl, e38 _ _ (by rw [y3]; exact hc2), Option.bind_some, z2, xb_err]
    · rw [x5, Option.bind_some, gd_pos (by omega)]
      show ((f_258 1 (ax_u2 mF 110 A 0)).bind fun q17 => some q17) = _
      rw [fl258 (by rw [u2_row _ _ _ (by decide)]; exact x6.2), Option.bind_some]
  · right
    refine ⟨x, sc', ax_u2 mF 110 A 0, by rw [x1, xb_err], x2, ⟨sf2.trans x3.1, x3.2⟩, ?_, (sg2.trans x5.1).trans (ro_sf (by decide)), by rw [u2_row _ _ _ (by decide)]; exact x5.2⟩
    rw [x4, Option.bind_some, gd_pos (by omega)]
    show ((f_258 1 (ax_u2 mF 110 A 0)).bind fun q17 => some q17) = _
    rw [fl258 (by rw [u2_row _ _ _ (by decide)]; exact x5.2), Option.bind_some]
  obtain ⟨p1, p2, p3, p4, p5, p6, p7, p8, p9, p10, p11, p12, p13, p14, p15, p16, p17, p18, p19, p20, p21⟩ := id x3
  have hz' := p3.2.2
  have h4 := x4.row (c := 110) (v := (N' : Int) - 1) hp (by decide)
  obtain ⟨m5, hm5⟩ : ∃ s : Sg, s = ax_u2 sm' 110 A ((N' : Int) - 1) := ⟨_, rfl⟩
  have sg5 : SFm sm m5 := by rw [hm5]; exact (sg2.trans p11.sf).trans (ro_sf (by decide))
  have k106 : m5 106 A = 1 := by rw [hm5, u2_row _ _ _ (by decide), p11.1 106 (by decide)]; exact g106
  have k111 : m5 111 A = ((a + 1 : Nat) : Int) := by rw [hm5, u2_row _ _ _ (by decide), p11.1 111 (by decide)]; exact g111
  have k110 : m5 110 A = (N' : Int) - 1 := by rw [hm5]; exact u2_same _ _ _ _
  rw [← hm5] at h4
  obtain ⟨l1, l2, l3, l4, l5, -⟩ := id h4.1
  have l13 : sc' 61 4 = (C : Int) := h4.1.2.2.2.2.2.2.2.2.2.2.2.2.1
  have l14 : sc' 31 8 = (B : Int) := h4.1.2.2.2.2.2.2.2.2.2.2.2.2.2.1
  have l43 := h4.2.1.2.1
  have l70 := h4.2.1.1
  rw [x1, xb_inl, x2, Option.bind_some, gd_pos (by omega)]
  show AOUT T sc0 sm0 sc sm a S P np w ((f_38 ((a + 1 : Nat) : Int) (sc' 66 8) 1 sc').bind fun q3 => (xb (f_154 21 (q3 31 8) q3) fun q4 => some (.inl q4))) ((f_258 1 (ax_u2 sm' 110 A ((N' : Int) - 1))).bind fun q17 => some q17)
  rw [← hm5, p15, e38 _ _ l13, Option.bind_some, CIc_row (by decide), l14]
  have cuk : CU T (CIc sc' C ((a + 1 : Nat) : Int) ((N' : Int) - 1)) a' := ⟨by rw [CIc_row (by decide)]; exact p3.1, by rw [CIc_row (by decide)]; exact p3.2.1, hz'⟩
  have k70 : (CIc sc' C ((a + 1 : Nat) : Int) ((N' : Int) - 1)) 70 9 = (D : Int) := by rw [CIc_row (by decide)]; exact l70
  have sfk : SFc sc (CIc sc' C ((a + 1 : Nat) : Int) ((N' : Int) - 1)) := (sf2.trans p10.sf).trans CIc_sf
  by_cases t2 : T.tk a' = 123 ∧ D < 80
  · left
    have z2 := hT.lt hz' (by rw [t2.1]; decide)
    have pa := hp.2.2.1 a z0 t0
    have pb := hp.add (k := a + 1) (a' - (a + 1)) (by omega)
    rw [show a + 1 + (a' - (a + 1)) = a' by omega] at pb
    have pc := hp.1 a' z2
    refine ⟨_, _, a' + 1, A + 1, N', K', C + 1, B, D + 1, ?_, ?_, by omega, h4.ifo hp t2.1 z2 t2.2 (x := a + 1) (by omega) (by omega) k106 k110 k111 p21 (by omega)⟩
    · rw [c154y hT (sfk.cc h.1.1) cuk t2.1 k70 t2.2, xb_inl]
      rfl
    · rw [m258y hT l2 l5 l4 hz' t2.1 l43 t2.2 (Or.inr rfl), Option.bind_some]
  · right
    obtain ⟨x, z1, z2⟩ := c154n (T := T) (s := CIc sc' C ((a + 1 : Nat) : Int) ((N' : Int) - 1)) (a := a') (b := D) (w := 21) (m := (B : Int)) cuk k70 (by
      by_cases t3 : T.tk a' = 123
      · exact Or.inr (by
          apply Decidable.byContradiction
          intro hn
          exact t2 ⟨t3, by omega⟩)
      · exact Or.inl t3)
    by_cases t3 : D < 80
    · obtain ⟨mF, y3, y4⟩ := m258n hT l2 l5 l4 hz' (fun e => t2 ⟨e, t3⟩) l43 t3 (x := 1) (Or.inr rfl)
      exact ⟨x, _, mF, by rw [z2, xb_err], z1, ⟨sfk, _, cuk⟩, by rw [y3, Option.bind_some], sg5.trans y4.1, y4.2⟩
    · refine ⟨x, _, tel m5 3 a', by rw [z2, xb_err], z1, ⟨sfk, _, cuk⟩, by rw [m258d hT l5 l4 hz' l43 (by omega), Option.bind_some], sg5.trans tel_sf, by rw [tel_at]; decide⟩
end IFA
