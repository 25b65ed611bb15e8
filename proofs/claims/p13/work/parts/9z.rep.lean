/-! AN ACTION: rep. -/
section REPA
variable {T : TT} {sc0 sm0 sc sm sc' sm' s4 m : Sg} {a b a1 a' S P A N N' K K' C C' B B' D D' np w : Nat}
theorem PIA.repo (hT : TWF T) (hp : POS T) (h : PIA T sc0 sm0 sc sm b S P A N K C B D np w) (t : T.tk b = 2) (t2 : T.tk (b + 1) = 123) (hz : b + 1 < T.z) (hD : D < 80) {x : Nat} (hx : x < T.z) (tx : T.tk x = 1) (hpv : T.tk (b - 1) = 1) (h106 : sm 106 A = 2) (h107 : sm 107 A = (x : Int)) (hA : A ≤ b)
    (k3 : ∀ c, ¬ (c = 30 ∨ c = 31 ∨ 37 ≤ c ∧ c ≤ 39) → s4 c = sc c) (k4 : ∀ j, j < 4 ∨ 7 < j → s4 30 j = sc 30 j) (k5 : ∀ j, j ≠ 10 → j ≠ 11 → s4 39 j = sc 39 j) (k6 : ∀ j, j ≠ 8 → s4 31 j = sc 31 j) (k7 : s4 31 8 = ((B + 1 : Nat) : Int)) (k8 : s4 38 B = (((T.vl x).toNat : Nat) : Int)) (k9 : s4 37 (T.vl x).toNat = 8) (k10 : ∀ i, i ≠ B → s4 38 i = sc 38 i) (k11 : ∀ i, i ≠ (T.vl x).toNat → s4 37 i = sc 37 i) (kc : CN s4 ↔ (CN sc ∧ 1 ≤ T.vl b ∧ T.vl b ≤ 255) ∧ sc 37 (T.vl x).toNat = 0) :
    PS1 T sc0 sm0 (OBc T s4 D 23 (B : Int) (b + 1)) (OBm (ax_u2 (ax_u2 (adv sm (b + 1)) 108 A (b : Int)) 84 46 (A : Int)) D 0 (b + 1)) (b + 1 + 1) S P (A + 1) N K C (B + 1) (D + 1) np w := by
  obtain ⟨h1, h2, h3, h4, h5⟩ := h
  obtain ⟨e1, e2, e3, e4, e5, e6, e7, e8, e9, e10, e11, e12, e13, e14, e15, e16, e17, e18, e19, e20, e21, e22, e23, e24, e25, e26, e27, e28, e29, e30, e31⟩ := id h1
  have h8 := hT.1
  obtain ⟨o1, o2, o3, o4, o5, o6, o7⟩ := OBc_at (T := T) (s := s4) (D := D) (wd := 23) (mk := (B : Int)) (b := b + 1) (by omega)
  obtain ⟨m3, hm3⟩ : ∃ s : Sg, s = ax_u2 (ax_u2 (adv sm (b + 1)) 108 A (b : Int)) 84 46 (A : Int) := ⟨_, rfl⟩
  obtain ⟨l1, l2, l3, l4, l5, l6⟩ := OBm_at (m := m3) (D := D) (x := 0) (b := b + 1)
  obtain ⟨sF, hsF⟩ : ∃ s : Sg, s = OBc T s4 D 23 (B : Int) (b + 1) := ⟨_, rfl⟩
  obtain ⟨mF, hmF⟩ : ∃ s : Sg, s = OBm m3 D 0 (b + 1) := ⟨_, rfl⟩
  have n46 : m3 84 46 = (A : Int) := by rw [hm3]; exact u2_same _ _ _ _
  have rc4 : ∀ c, ¬ (c = 39 ∨ 70 ≤ c ∧ c ≤ 72) → sF c = s4 c := fun c y => by rw [hsF, OBc_row (by omega)]
  have rc : ∀ c, ¬ (c = 30 ∨ c = 31 ∨ 37 ≤ c ∧ c ≤ 39 ∨ 70 ≤ c ∧ c ≤ 72) → sF c = sc c := fun c y => by rw [rc4 c (by omega), k3 c (by omega)]
  have rm : ∀ c, ¬ (c = 84 ∨ c = 108 ∨ c = 114 ∨ c = 115) → mF c = sm c := fun c y => by rw [hmF, OBm_row (by omega), hm3, u2_row _ _ _ (by omega), u2_row _ _ _ (by omega), adv_row (by omega)]
  have rm8 : ∀ i, i ≠ A → mF 108 i = sm 108 i := fun i hi => by rw [hmF, OBm_row (by decide), hm3, u2_row _ _ _ (by decide), u2_col _ _ _ hi, adv_row (by decide)]
  have v108 : mF 108 A = (b : Int) := by rw [hmF, OBm_row (by decide), hm3, u2_row _ _ _ (by decide)]; exact u2_same _ _ _ _
  have r8 : ∀ j, j ≠ 18 → j ≠ 43 → j ≠ 46 → mF 84 j = sm 84 j := fun j y z u => by rw [hmF, OBm_84 y z, hm3, u2_col _ _ _ u, u2_row _ _ _ (by decide), adv_col y]
  have f46 : mF 84 46 = (A : Int) := by rw [hmF, OBm_84 (by decide) (by decide)]; exact n46
  have f114 : ∀ i, i ≠ D → mF 114 i = sm 114 i := fun i hi => by rw [hmF, l5 i hi, hm3, u2_row _ _ _ (by decide), u2_row _ _ _ (by decide), adv_row (by decide)]
  have f115 : ∀ i, i ≠ D → mF 115 i = sm 115 i := fun i hi => by rw [hmF, l6 i hi, hm3, u2_row _ _ _ (by decide), u2_row _ _ _ (by decide), adv_row (by decide)]
  rw [← hsF] at o1 o2 o3 o4 o5 o6 o7
  rw [← hmF] at l1 l2 l3 l4
  rw [← hm3, ← hsF, ← hmF]
  rw [n46] at l4
  have hd := h3.2.2.2.2.2
  have d1 := h2.2.2.1
  have hr := h2.rep
  have cn : CN sF ↔ CN s4 := by unfold CN; rw [rc4 30 (by decide)]
  have q106 : mF 106 A = 2 := by rw [rm 106 (by decide)]; exact h106
  have q107 : mF 107 A = (x : Int) := by rw [rm 107 (by decide)]; exact h107
  have q113 : mF 113 A = sm 84 46 := by rw [rm 113 (by decide)]; exact h5
  have v1 := hT.2.2.2.2.1 x hx
  have v2 := hT.2.2.2.2.2.1 x hx tx
  have vi : (((T.vl x).toNat : Nat) : Int) = T.vl x := by omega
  have arl : ARL T mF (S + 1) N A := by
    refine ⟨S, by rw [rm 112 (by decide)]; exact h4, by omega, by rw [rm 94 (by decide)]; exact h3.2.2.2.2.1, by rw [q113]; exact hr.1, by rw [q113]; exact hr.2.1, by rw [q113, rm 106 (by decide)]; exact hr.2.2, Or.inr (Or.inr (Or.inl ⟨q106, ⟨x, q107, hx, tx⟩, ⟨b, v108, by omega, t⟩⟩))⟩
  have ow : CN sc → (sc 37 (T.vl x).toNat ≠ 0 ↔ OWN T mF S (sm 84 46) (T.vl x)) := fun y => by
    have bn := (h2.2.2.2.2.2.2.2.2.2.2.2 y).1
    have bn' : BND T sc mF S (sm 84 46) B np := bn.rows (A := A) rfl rfl rfl (by rw [rm 98 (by decide)]) (by rw [rm 99 (by decide)]) (rm 104 (by decide)) (rm 105 (by decide)) (fun i _ => ⟨by rw [rm 107 (by decide)], by rw [rm 113 (by decide)]⟩) hr.2.1
    have := bn'.own (i := (T.vl x).toNat) (IDN.at hT hx tx)
    rw [vi] at this
    exact this
  have gac : GAC T mF A ↔ 1 ≤ T.vl b ∧ T.vl b ≤ 255 ∧ ¬ OWN T mF S (sm 84 46) (T.vl x) := by
    unfold GAC
    rw [q106, q107, q113, v108, rm 112 (by decide), h4, Int.toNat_natCast, Int.toNat_natCast, Int.toNat_natCast]
    exact ⟨fun y => y.1 rfl, fun y => ⟨fun _ => y, fun z => absurd z (by decide), fun z => absurd z (by decide)⟩⟩
  have pz := hp.add (k := b) 2 (by omega)
  rw [show b + 2 = b + 1 + 1 by omega] at pz
  refine ⟨?_, ?_, ?_, Or.inl (by rw [show b + 1 + 1 - 1 = b + 1 by omega]; exact t2)⟩
  · refine PXB.ps (h1.gen (fun c y => rc c (by omega)) (fun j y z => by rw [o2 j y z]; exact k5 j y z) (fun j y => by rw [rc4 30 (by decide)]; exact k4 j y) (fun j y => by rw [rc4 31 (by decide)]; exact k6 j y) (by rw [rc4 31 (by decide)]; exact k7) (by rw [rc 61 (by decide)]; exact e13) (fun c j y z u => by rw [rc c (by omega)]) (fun i hi => by rw [rc 59 (by decide), rm 102 (by decide)]; exact e18 i hi) o1 (fun c y => rm c (by omega)) (fun c i y z u => ?_) (fun j y _ z u => r8 j y z u) l1 (by rw [r8 34 (by decide) (by decide) (by decide)]; exact e12) (by omega) (Nat.le_refl _) (fun i y z => by rw [show i = A by omega]; exact arl) (fun c y z => absurd z (by omega)) (fun _ i y z u => by rw [show i = A by omega, q106] at u; exact absurd u (by decide)) (fun i y z u => by rw [show i = A by omega, q106] at u; exact absurd u (by decide)) ?_ (by omega) (fun k y z => ?_) ?_ (by omega) (by omega))
    · by_cases c8 : c = 108
      · subst c8; exact rm8 i (by omega)
      · rw [rm c (by omega)]
    · rw [cn, kc]
      constructor
      · intro y
        refine ⟨y.1.1, fun i u v => ?_⟩
        rw [show i = A by omega, gac]
        exact ⟨y.1.2.1, y.1.2.2, fun z => (ow y.1.1).mpr z y.2⟩
      · intro y
        have g := gac.mp (y.2 A (Nat.le_refl _) (by omega))
        refine ⟨⟨y.1, g.1, g.2.1⟩, ?_⟩
        apply Decidable.byContradiction
        intro hn
        exact g.2.2 ((ow y.1).mp hn)
    · by_cases c1 : k = b
      · rw [c1, hpv, t]
        exact ⟨Or.inr (Or.inr (Or.inl (by decide))), STT.deep (by rw [t]; decide) (by omega)⟩
      · rw [show k = b + 1 by omega, show b + 1 - 1 = b by omega, t, t2]
        refine ⟨Or.inr (Or.inl ⟨by decide, Or.inr rfl⟩), STT.deep (by rw [t2]; decide) ?_⟩
        rw [dpt_n (by rw [t]; decide) (by rw [t]; decide)]
        omega
    · omega
  · refine h2.pushr hT hx tx (by omega) hD o3 (fun i hi => by rw [o6 i hi, k3 71 (by decide)]) o4 (fun i hi => by rw [o7 i hi, k3 72 (by decide)]) o5 (by rw [rc4 31 (by decide)]; exact k7) (fun i hi => by rw [rc4 38 (by decide)]; exact k10 i hi) (by rw [rc4 38 (by decide)]; exact k8) (fun i hi => by rw [rc4 37 (by decide)]; exact k11 i hi) (by rw [rc4 37 (by decide)]; exact k9) l2 f46 f114 l3 f115 l4 (by rw [rm 98 (by decide)]) (by rw [rm 99 (by decide)]) (rm 104 (by decide)) (rm 105 (by decide)) (fun i _ => ⟨by rw [rm 107 (by decide)], by rw [rm 113 (by decide)]⟩) (fun i _ => by rw [rm 106 (by decide)]) q106 q107 q113 (fun y => ?_)
    have := kc.mp (cn.mp y)
    exact ⟨this.1.1, this.2⟩
  · refine h3.cg hp (rc 60 (by decide)) (rm 103 (by decide)) (rm 94 (by decide)) (r8 19 (by decide) (by decide) (by decide)) (by omega) (by omega) ?_
    have e1 : dpt T (b + 1) = (D : Int) := by rw [dpt_n (by rw [t]; decide) (by rw [t]; decide)]; exact hd
    have e2 : dpt T (b + 1 + 1) = dpt T (b + 1) + (if T.tk (b + 1) = 123 then 1 else if T.tk (b + 1) = 125 then -1 else 0) := rfl
    rw [e2, if_pos t2, e1]
    omega
theorem act_rep (hT : TWF T) (hp : POS T) (h : PS1 T sc0 sm0 sc sm a S P A N K C B D np w) (t0 : T.tk a = 23) : AOUT T sc0 sm0 sc sm a S P np w (f_144 sc) (f_259 (S : Int) sm) := by
  obtain ⟨hS, hA, hz, h8, hC8, hB8, h39, r144, r259⟩ := h.sz hT hp
  have hb := h.begin
  have htl := h.2.2.2
  have hAa : A ≤ a := h.1.2.2.2.2.2.2.2.2.2.2.2.2.2.2.2.2.2.2.2.2.2.2.2.1
  have hCa : 4 * (C : Int) ≤ T.fm a := h.1.2.2.2.2.2.2.2.2.2.2.2.2.2.2.2.2.2.2.2.2.1
  obtain ⟨sc1, hsc1⟩ : ∃ s : Sg, s = ACc sc S := ⟨_, rfl⟩
  obtain ⟨m1, hm1⟩ : ∃ s : Sg, s = ACm sm S A := ⟨_, rfl⟩
  have sf1 : SFc sc sc1 := by rw [hsc1]; exact ACc_sf
  have sg1 : SFm sm m1 := by rw [hm1]; exact ACm_sf
  have v109 : m1 109 A = -1 := by rw [hm1]; exact ACm_A.2.2.2.1
  rw [← hsc1, ← hm1] at hb
  rw [← hsc1] at r144
  rw [← hm1] at r259
  rw [r144 (by rw [t0]; decide), r259]
  obtain ⟨e1, e2, e3, e4, e5, -⟩ := id hb.1
  have z0 := hT.lt hz (by rw [t0]; decide)
  rw [if_neg (by rw [e3.2.1, t0]; decide), if_neg (by rw [e3.2.1, t0]; decide), if_pos (by rw [e3.2.1, t0])]
  rw [eatN e2 hT e4 hz (k := 21) (by decide) (by decide) (by rw [t0]; decide)]
  have h1 := (hb.tok hp z0 (Or.inr (Or.inr (Or.inr (Or.inr (Or.inr (Or.inl ⟨by rcases htl with x | x | x <;> simp [x], by simp [t0]⟩)))))) (by rw [t0]; decide) (by rw [t0]; decide) (by rw [t0]; decide)).row (c := 106) (v := 2) hp (by decide)
  obtain ⟨sc2, hsc2⟩ : ∃ s : Sg, s = cur T sc1 (a + 1) := ⟨_, rfl⟩
  obtain ⟨m2, hm2⟩ : ∃ s : Sg, s = ax_u2 (adv m1 (a + 1)) 106 A 2 := ⟨_, rfl⟩
  have sf2 : SFc sc sc2 := by rw [hsc2]; exact sf1.trans cur_sf
  have sg2 : SFm sm m2 := by rw [hm2]; exact (sg1.trans adv_sf).trans (ro_sf (by decide))
  have g106 : m2 106 A = 2 := by rw [hm2]; exact u2_same _ _ _ _
  rw [← hsc2, ← hm2] at h1
  have rm : at1 (S : Int) (A : Int) ((D - 1 : Nat) : Int) ((0 : Int), m1) = (f_231 1 m2).bind fun q13 => (gd (0 ≤ (A : Int) ∧ (A : Int) < 8200) ((f_231 2 (ax_u2 q13.2 107 A q13.1)).bind fun q14 => (gd (0 ≤ (A : Int) ∧ (A : Int) < 8200) ((f_258 0 (ax_u2 (ax_u2 q14.2 108 A q14.1) 84 46 (A : Int))).bind fun q15 => some q15)))) := by
    unfold at1
    rw [if_pos rfl, eatY e2 hT e5 e4 hz (k := 23) (by decide) t0]
    rw [if_neg (by simp), gd_pos (by omega), Int.toNat_natCast, hm2]
  rw [rm]
  have rc : f_149 sc1 = (xb (f_96 sc2) fun q2 => (xb (f_93 1 255 q2.2) fun q3 => ((f_155 q2.1 (sc2 39 10) 8 q3.2).bind fun q4 => (xb (f_154 23 (q3.2 31 8) q4) fun q5 => some (.inl q5))))) := by
    unfold f_149
    rw [nxt hT e1 e3 (by rw [t0]; decide), hsc2]
  rw [rc]
  obtain ⟨j1, j2, j3, j4, j5, -⟩ := id h1.1
  have hz2 := j3.2.2
  rw [j3.1]
  have fin : ∀ (mx : Sg) (v : Int), 0 < mx 84 6 → ((f_258 0 (ax_u2 (ax_u2 mx 108 A v) 84 46 (A : Int))).bind fun q15 => some q15) = some (ax_u2 (ax_u2 mx 108 A v) 84 46 (A : Int)) ∧ BSm mx (ax_u2 (ax_u2 mx 108 A v) 84 46 (A : Int)) := fun mx v hf => by
    have e : 0 < (ax_u2 (ax_u2 mx 108 A v) 84 46 (A : Int)) 84 6 := by rw [u2_col _ _ _ (by decide), u2_row _ _ _ (by decide)]; exact hf
    refine ⟨by rw [fl258 e, Option.bind_some], (ro_sf (by decide)).trans (slot_sf (by decide)), e⟩
  by_cases t1 : T.tk (a + 1) = 1
  rotate_left
  · right
    have f1 : 0 < (ax_u2 (tel m2 2 (a + 1)) 107 A 0) 84 6 := by rw [u2_row _ _ _ (by decide), tel_at]; decide
    obtain ⟨y1, y2⟩ := fin _ 0 f1
    refine ⟨15, sc2, _, by rw [c96n j3 t1, xb_err], Or.inr rfl, ⟨sf2, _, j3⟩, ?_, ((sg2.trans tel_sf).trans (ro_sf (by decide))).trans y2.1, y2.2⟩
    rw [takeN j2 hT j5 j4 hz2 (k := 1) (by decide) (by decide) t1, Option.bind_some, gd_pos (by omega)]
    show ((f_231 2 (ax_u2 (tel m2 2 (a + 1)) 107 A 0)).bind fun q14 => (gd (0 ≤ (A : Int) ∧ (A : Int) < 8200) ((f_258 0 (ax_u2 (ax_u2 q14.2 108 A q14.1) 84 46 (A : Int))).bind fun q15 => some q15))) = _
    rw [takeF f1, Option.bind_some, gd_pos (by omega)]
    exact y1
  have z1 := hT.lt hz2 (by rw [t1]; decide)
  have h2 := (h1.tok hp z1 (Or.inr (Or.inr (Or.inl (by rw [show a + 1 - 1 = a by omega, t0, t1]; decide)))) (by rw [t1]; decide) (by rw [t1]; decide) (by rw [t1]; decide)).row (c := 107) (v := ((a + 1 : Nat) : Int)) hp (by decide)
  rw [c96y hT j1 j3 t1, xb_inl, takeY j2 hT j5 j4 hz2 (k := 1) (by decide) t1, Option.bind_some, gd_pos (by omega)]
  obtain ⟨sc3, hsc3⟩ : ∃ s : Sg, s = cur T sc2 (a + 1 + 1) := ⟨_, rfl⟩
  obtain ⟨m3, hm3⟩ : ∃ s : Sg, s = ax_u2 (adv m2 (a + 1 + 1)) 107 A ((a + 1 : Nat) : Int) := ⟨_, rfl⟩
  have sf3 : SFc sc sc3 := by rw [hsc3]; exact sf2.trans cur_sf
  have sg3 : SFm sm m3 := by rw [hm3]; exact (sg2.trans adv_sf).trans (ro_sf (by decide))
  have k106 : m3 106 A = 2 := by rw [hm3, u2_row _ _ _ (by decide), adv_row (by decide)]; exact g106
  have k107 : m3 107 A = ((a + 1 : Nat) : Int) := by rw [hm3]; exact u2_same _ _ _ _
  rw [← hsc3, ← hm3] at h2
  show AOUT T sc0 sm0 sc sm a S P np w (xb (f_93 1 255 (cur T sc2 (a + 1 + 1))) fun q3 => ((f_155 (T.vl (a + 1)) ((a + 1 : Nat) : Int) 8 q3.2).bind fun q4 => (xb (f_154 23 (q3.2 31 8) q4) fun q5 => some (.inl q5)))) ((f_231 2 (ax_u2 (adv m2 (a + 1 + 1)) 107 A ((a + 1 : Nat) : Int))).bind fun q14 => (gd (0 ≤ (A : Int) ∧ (A : Int) < 8200) ((f_258 0 (ax_u2 (ax_u2 q14.2 108 A q14.1) 84 46 (A : Int))).bind fun q15 => some q15)))
  rw [← hsc3, ← hm3]
  obtain ⟨i1, i2, i3, i4, i5, -⟩ := id h2.1
  have hz3 := i3.2.2
  have i14 : sc3 31 8 = (B : Int) := h2.1.2.2.2.2.2.2.2.2.2.2.2.2.2.1
  have i70 := h2.2.1.1
  have i43 := h2.2.1.2.1
  by_cases t2 : T.tk (a + 1 + 1) = 2
  rotate_left
  · right
    obtain ⟨y1, y2⟩ := fin (tel m3 2 (a + 1 + 1)) 0 (by rw [tel_at]; decide)
    refine ⟨15, sc3, _, by rw [c93n i3 t2, xb_err], Or.inr rfl, ⟨sf3, _, i3⟩, ?_, (sg3.trans tel_sf).trans y2.1, y2.2⟩
    rw [takeN i2 hT i5 i4 hz3 (k := 2) (by decide) (by decide) t2, Option.bind_some, gd_pos (by omega)]
    exact y1
  have z2 := hT.lt hz3 (by rw [t2]; decide)
  obtain ⟨s3, k1, k2, k3, k4⟩ := c93 (lo := 1) (hi := 255) hT i1 i3 t2
  have sf4 : SFc sc3 (cur T s3 (a + 1 + 1 + 1)) := SFc.trans ⟨fun c x => k3 c (by omega), fun j _ _ => by rw [k3 39 (by decide)], k4, fun j _ => by rw [k3 31 (by decide)], W8.same (k3 31 (by decide))⟩ cur_sf
  have cu4 : CU T (cur T s3 (a + 1 + 1 + 1)) (a + 1 + 1 + 1) := cur_cu (by omega)
  have b4 : (cur T s3 (a + 1 + 1 + 1)) 31 8 = (B : Int) := by rw [cur_row (by decide), k3 31 (by decide)]; exact i14
  obtain ⟨s4, n1, n2, n3⟩ := c155 (w := 8) hT (sf4.cc i1) z1 t1 b4 hB8
  obtain ⟨q1, q2, q3, q4, q5, q6, q7, q8⟩ := n2
  have cu5 : CU T s4 (a + 1 + 1 + 1) := ⟨by rw [q7 39 (by decide)]; exact cu4.1, by rw [q7 39 (by decide)]; exact cu4.2.1, cu4.2.2⟩
  have sf5 : SFc sc s4 := (sf3.trans sf4).trans ⟨fun c x => q7 c (by omega), fun j _ _ => by rw [q7 39 (by decide)], q8, q6, W8.of q1 (by omega)⟩
  have p70 : s4 70 9 = (D : Int) := by rw [q7 70 (by decide), cur_row (by decide), k3 70 (by decide)]; exact i70
  rw [k1, xb_inl, takeY i2 hT i5 i4 hz3 (k := 2) (by decide) t2, Option.bind_some, gd_pos (by omega)]
  show AOUT T sc0 sm0 sc sm a S P np w ((f_155 (T.vl (a + 1)) ((a + 1 : Nat) : Int) 8 (cur T s3 (a + 1 + 1 + 1))).bind fun q4 => (xb (f_154 23 ((cur T s3 (a + 1 + 1 + 1)) 31 8) q4) fun q5 => some (.inl q5))) ((f_258 0 (ax_u2 (ax_u2 (adv m3 (a + 1 + 1 + 1)) 108 A ((a + 1 + 1 : Nat) : Int)) 84 46 (A : Int))).bind fun q15 => some q15)
  rw [n1, Option.bind_some, b4]
  obtain ⟨m5, hm5⟩ : ∃ s : Sg, s = ax_u2 (ax_u2 (adv m3 (a + 1 + 1 + 1)) 108 A ((a + 1 + 1 : Nat) : Int)) 84 46 (A : Int) := ⟨_, rfl⟩
  have sg5 : SFm m3 m5 := by rw [hm5]; exact (adv_sf.trans (ro_sf (by decide))).trans (slot_sf (by decide))
  have f5 : m5 84 6 = 0 := by rw [hm5, u2_col _ _ _ (by decide), u2_row _ _ _ (by decide), adv_col (by decide)]; exact i5
  have u5 : m5 84 18 = ((a + 1 + 1 + 1 : Nat) : Int) := by rw [hm5, u2_col _ _ _ (by decide), u2_row _ _ _ (by decide)]; exact adv_at
  have w5 : m5 84 43 = (D : Int) := by rw [hm5, u2_col _ _ _ (by decide), u2_row _ _ _ (by decide), adv_col (by decide)]; exact i43
  rw [← hm5]
  by_cases t3 : T.tk (a + 1 + 1 + 1) = 123 ∧ D < 80
  · left
    have z3 := hT.lt cu5.2.2 (by rw [t3.1]; decide)
    refine ⟨_, _, a + 1 + 1 + 1 + 1, A + 1, N, K, C, B + 1, D + 1, ?_, ?_, by omega, h2.repo hT hp (s4 := s4) t2 t3.1 z3 t3.2 (x := a + 1) z1 t1 (by rw [show a + 1 + 1 - 1 = a + 1 by omega]; exact t1) k106 k107 (by omega) (fun c x => by rw [q7 c (by omega), cur_row (by omega), k3 c (by omega)]) (fun j x => by rw [q8 j x, cur_row (by decide)]; exact k4 j x) (fun j x y => by rw [q7 39 (by decide), cur_col x y, k3 39 (by decide)]) (fun j x => by rw [q6 j x, cur_row (by decide), k3 31 (by decide)]) q1 q2 ?_ (fun i hi => by rw [q4 i hi, cur_row (by decide), k3 38 (by decide)]) (fun i hi => by rw [q5 i hi, cur_row (by decide), k3 37 (by decide)]) ?_⟩
    · rw [c154y hT (sf5.cc h.1.1) cu5 t3.1 p70 t3.2, xb_inl]
      rfl
    · rw [m258y hT (sg5.mc i2) f5 u5 cu5.2.2 t3.1 w5 t3.2 (Or.inl rfl), Option.bind_some, hm5]
    · rw [q3]; decide
    · rw [n3]
      have c1 : CN (cur T s3 (a + 1 + 1 + 1)) ↔ CN s3 := by unfold CN; rw [cur_row (by decide)]
      rw [c1, k2, cur_row (by decide), k3 37 (by decide)]
  · right
    obtain ⟨x, y1, y2⟩ := c154n (T := T) (s := s4) (a := a + 1 + 1 + 1) (b := D) (w := 23) (m := (B : Int)) cu5 p70 (by
      by_cases t4 : T.tk (a + 1 + 1 + 1) = 123
      · exact Or.inr (by
          apply Decidable.byContradiction
          intro hn
          exact t3 ⟨t4, by omega⟩)
      · exact Or.inl t4)
    by_cases t4 : D < 80
    · obtain ⟨mF, y3, y4⟩ := m258n hT (sg5.mc i2) f5 u5 cu5.2.2 (fun e => t3 ⟨e, t4⟩) w5 t4 (x := 0) (Or.inl rfl)
      exact ⟨x, _, mF, by rw [y2, xb_err], y1, ⟨sf5, _, cu5⟩, by rw [y3, Option.bind_some], (sg3.trans sg5).trans y4.1, y4.2⟩
    · exact ⟨x, _, tel m5 3 (a + 1 + 1 + 1), by rw [y2, xb_err], y1, ⟨sf5, _, cu5⟩, by rw [m258d hT f5 u5 cu5.2.2 w5 (by omega), Option.bind_some], (sg3.trans sg5).trans tel_sf, by rw [tel_at]; decide⟩
/-- any action -/
theorem act_sim (hT : TWF T) (hp : POS T) (h : PS1 T sc0 sm0 sc sm a S P A N K C B D np w) (t : T.tk a ≠ 125) : AOUT T sc0 sm0 sc sm a S P np w (f_144 sc) (f_259 (S : Int) sm) := by
  by_cases c1 : T.tk a = 1
  · exact act_asg hT hp h c1
  by_cases c2 : T.tk a = 21
  · exact act_if hT hp h c2
  by_cases c3 : T.tk a = 23
  · exact act_rep hT hp h c3
  by_cases c4 : T.tk a = 24
  · exact act_raise hT hp h c4
  obtain ⟨hS, hA, hz, h8, hC8, hB8, h39, r144, r259⟩ := h.sz hT hp
  have hb := h.begin
  obtain ⟨e1, e2, e3, e4, e5, -⟩ := id hb.1
  right
  have g0 : SFm (ACm sm S A) (ax_u2 (ACm sm S A) 106 A 0) := ro_sf (by decide)
  have f1 : 0 < (ax_u2 (tel (ax_u2 (ACm sm S A) 106 A 0) 2 a) 107 A 0) 84 6 := by rw [u2_row _ _ _ (by decide), tel_at]; decide
  obtain ⟨mF, k1, k2⟩ := fat1 (S := S) (A := A) (d := ((D - 1 : Nat) : Int)) hA f1
  refine ⟨15, ACc sc S, mF, ?_, Or.inr rfl, ⟨ACc_sf, _, e3⟩, ?_, (((ACm_sf.trans g0).trans tel_sf).trans (ro_sf (by decide))).trans k2.1, k2.2⟩
  · rw [r144 t, if_neg (by rw [e3.2.1]; exact c1), if_neg (by rw [e3.2.1]; exact c2), if_neg (by rw [e3.2.1]; exact c3), if_neg (by rw [e3.2.1]; exact c4)]
  · rw [r259, eatN e2 hT e4 hz (k := 21) (by decide) (by decide) c2]
    unfold at1
    rw [if_pos rfl, eatN e2 hT e4 hz (k := 23) (by decide) (by decide) c3]
    rw [if_pos rfl, eatN e2 hT e4 hz (k := 24) (by decide) (by decide) c4]
    rw [if_pos rfl, gd_pos (by omega), Int.toNat_natCast]
    rw [takeN (g0.mc e2) hT (by rw [u2_row _ _ _ (by decide)]; exact e5) (by rw [u2_row _ _ _ (by decide)]; exact e4) hz (k := 1) (by decide) (by decide) c1, Option.bind_some, gd_pos (by omega)]
    dsimp only
    obtain ⟨x1, x2⟩ := eat_f (K := 15) f1
    rw [gd_pos x2, x1, Option.bind_some, if_pos rfl]
    exact k1
end REPA
