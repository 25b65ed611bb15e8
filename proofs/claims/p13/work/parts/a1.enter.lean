/-! AN INSTRUCTION's first body is open. -/
section ENT
variable {T : TT} {sc0 sm0 sc sm s1 scp mp : Sg} {a b S P A N K C J B w : Nat}
/-- the lexemes of its parts -/
theorem ILS.tks (h : ILS T s1 (HDm sm S P N a 3) scp mp (a + 1) S P J B b) (t1 : T.tk (a + 1) = 1) : (∀ k, a + 2 ≤ k → k < b → PRQ (T.tk (k - 1)) (T.tk k) ∧ T.tk k ≠ 123 ∧ T.tk k ≠ 125 ∧ ¬ (17 ≤ T.tk k ∧ T.tk k ≤ 20) ∧ T.tk k ≠ 59) ∧ (T.tk (b - 1) = 1 ∨ T.tk (b - 1) = 2) ∧ a + 2 ≤ b := by
  obtain ⟨-, -, -, -, -, -, -, -, -, -, -, -, -, -, -, -, ⟨f, f0, fj, fs⟩, -, -, -⟩ := h
  have key : ∀ j, j ≤ J → a + 2 ≤ f j ∧ (T.tk (f j - 1) = 1 ∨ T.tk (f j - 1) = 2) ∧ ∀ k, a + 2 ≤ k → k < f j → PRQ (T.tk (k - 1)) (T.tk k) ∧ T.tk k ≠ 123 ∧ T.tk k ≠ 125 ∧ ¬ (17 ≤ T.tk k ∧ T.tk k ≤ 20) ∧ T.tk k ≠ 59 := by
    intro j
    induction j with
    | zero =>
      intro _
      rw [f0]
      exact ⟨by omega, by rw [show a + 1 + 1 - 1 = a + 1 by omega]; exact Or.inl t1, fun k x y => absurd y (by omega)⟩
    | succ j ih =>
      intro hj
      obtain ⟨i1, i2, i3⟩ := ih (by omega)
      rcases fs j (by omega) with ⟨g1, g2, g3, g4⟩ | ⟨g1, g2, g3, g4, g5, g6⟩
      · rw [g4]
        refine ⟨by omega, by rw [show f j + 1 - 1 = f j by omega]; exact Or.inr g1, fun k x y => ?_⟩
        by_cases c : k < f j
        · exact i3 k x c
        · rw [show k = f j by omega, g1]
          refine ⟨?_, by decide, by decide, by decide, by decide⟩
          rcases i2 with e | e <;> rw [e] <;> exact Or.inr (Or.inr (Or.inl (by decide)))
      · rw [g6]
        refine ⟨by omega, by rw [show f j + 3 - 1 = f j + 2 by omega]; exact Or.inr g3, fun k x y => ?_⟩
        by_cases c : k < f j
        · exact i3 k x c
        · by_cases c1 : k = f j
          · rw [c1, g1]
            refine ⟨?_, by decide, by decide, by decide, by decide⟩
            rcases i2 with e | e <;> rw [e] <;> exact Or.inr (Or.inr (Or.inl (by decide)))
          · by_cases c2 : k = f j + 1
            · rw [c2, show f j + 1 - 1 = f j by omega, g1, g2]
              exact ⟨Or.inl (Or.inr (Or.inl (by decide))), by decide, by decide, by decide, by decide⟩
            · rw [show k = f j + 2 by omega, show f j + 2 - 1 = f j + 1 by omega, g2, g3]
              exact ⟨Or.inl (Or.inl (by decide)), by decide, by decide, by decide, by decide⟩
  obtain ⟨k1, k2, k3⟩ := key J (Nat.le_refl _)
  rw [fj] at k1 k2 k3
  exact ⟨k3, k2, k1⟩
theorem ins_ps1 (hT : TWF T) (hp : POS T) (h : PS0 T sc0 sm0 sc sm a S P A N K C w) (t0 : T.tk a = 20) (t1 : T.tk (a + 1) = 1) (hd : HDd sc s1 S (a + 1) N (T.vl (a + 1)).toNat 3) (hcn : CN s1 ↔ CN sc ∧ sc 36 (T.vl (a + 1)).toNat = -1) (il : ILS T s1 (HDm sm S P N a 3) scp mp (a + 1) S P J B b) (hu : CU T scp b) (hu2 : mp 84 18 = (b : Int)) (tb : T.tk b = 123) :
    PS1 T sc0 sm0 (OBc T scp 0 20 0 b) (OBm (ax_u2 mp 84 43 0) 0 0 b) (b + 1) S (P + J) A N K C B 1 B w := by
  obtain ⟨pq, pb, ab⟩ := il.tks t1
  obtain ⟨hB, h70, h19, h7, h37, hnc, htl, hdp⟩ := h
  obtain ⟨e1, e2, e3, e4, e5, e6, e7, e8, e9, e10, e11, e12, e13, e14, e15, e16, e17, e18, e19, e20, e21, e22, e23, e24, e25, e26, e27, e28, e29, e30, e31⟩ := hB
  obtain ⟨q1, q2, q3, q4, q5, q6, q7, q8, q9, q10, q11, q12, q13, q14⟩ := hd
  obtain ⟨y1, y2, y3, y4, y5, y6, y7, y8, k1, k2, k3, k4, k5, k6, y9, y10, ⟨f, f0, fj, fs⟩, g2, g3, g4⟩ := il
  obtain ⟨s46, s94, s95, s96, s98, s99, s102, s103⟩ := HDm_S (sm := sm) (S := S) (P := P) (N := N) (a := a) (kd := 3)
  have h8 := hT.1
  have zb := hT.lt hu.2.2 (by rw [tb]; decide)
  obtain ⟨o1, o2, o3, o4, o5, o6, o7⟩ := OBc_at (T := T) (s := scp) (D := 0) (wd := 20) (mk := 0) (b := b) (by omega)
  obtain ⟨m0, hm0⟩ : ∃ s : Sg, s = ax_u2 mp 84 43 0 := ⟨_, rfl⟩
  obtain ⟨l1, l2, l3, l4, l5, l6⟩ := OBm_at (m := m0) (D := 0) (x := 0) (b := b)
  obtain ⟨sF, hsF⟩ : ∃ s : Sg, s = OBc T scp 0 20 0 b := ⟨_, rfl⟩
  obtain ⟨mF, hmF⟩ : ∃ s : Sg, s = OBm m0 0 0 b := ⟨_, rfl⟩
  have rcp : ∀ c, ¬ (c = 39 ∨ 70 ≤ c ∧ c ≤ 72) → sF c = scp c := fun c y => by rw [hsF, OBc_row (by omega)]
  have rmp : ∀ c, ¬ (c = 84 ∨ c = 114 ∨ c = 115) → mF c = mp c := fun c y => by rw [hmF, OBm_row (by omega), hm0, u2_row _ _ _ (by omega)]
  have rp8 : ∀ j, j ≠ 18 → j ≠ 43 → mF 84 j = mp 84 j := fun j y z => by rw [hmF, OBm_84 y z, hm0, u2_col _ _ _ z]
  rw [← hsF] at o1 o2 o3 o4 o5 o6 o7
  rw [← hmF] at l1 l2 l3 l4 l5 l6
  rw [← hm0, ← hsF, ← hmF]
  have rc : ∀ c, ¬ (c = 30 ∨ c = 31 ∨ 36 ≤ c ∧ c ≤ 39 ∨ c = 45 ∨ 54 ≤ c ∧ c ≤ 60 ∨ 70 ≤ c ∧ c ≤ 72) → sF c = sc c := fun c y => by rw [rcp c (by omega), y1 c (by omega), q12 c (by omega)]
  have rm : ∀ c, ¬ (c = 84 ∨ c = 93 ∨ 94 ≤ c ∧ c ≤ 105 ∨ c = 114 ∨ c = 115) → mF c = sm c := fun c y => by rw [rmp c (by omega), k1 c (by omega), HDm_row (by omega)]
  have r8 : ∀ j, j ≠ 18 → j ≠ 31 → j ≠ 43 → j ≠ 46 → mF 84 j = sm 84 j := fun j x y z u => by rw [rp8 j x z, k2 j x y, HDm_84 u x]
  have r55 : ∀ c i, 54 ≤ c → c ≤ 60 → c ≠ 57 → c ≠ 58 → sF c i = s1 c i := fun c i x y z u => by rw [rcp c (by omega), y1 c (by omega)]
  have r57 : ∀ c i, 55 ≤ c → c ≤ 60 → i ≠ S → sF c i = sc c i := fun c i x y z => by
    by_cases c7 : c = 57 ∨ c = 58
    · rw [rcp c (by omega), y5 c i (by omega) (by omega) z]; exact q10 c i x y z
    · rw [r55 c i (by omega) (by omega) (by omega) (by omega)]; exact q10 c i x y z
  have r94 : ∀ c i, 94 ≤ c → c ≤ 103 → i ≠ S → mF c i = sm c i := fun c i x y z => by
    rw [rmp c (by omega)]
    by_cases c9 : c = 99
    · subst c9; rw [k3 i z, HDm_col (by decide) z]
    · rw [k1 c (by omega), HDm_col (by omega) z]
  have rS : ∀ c, 94 ≤ c → c ≤ 103 → c ≠ 99 → mF c S = HDm sm S P N a 3 c S := fun c x y z => by rw [rmp c (by omega), k1 c (by omega)]
  have m94 : mF 94 S = 3 := by rw [rS 94 (by decide) (by decide) (by decide)]; exact s94
  have m95 : mF 95 S = ((a + 1 : Nat) : Int) := by rw [rS 95 (by decide) (by decide) (by decide)]; exact s95
  have m98 : mF 98 S = (P : Int) := by rw [rS 98 (by decide) (by decide) (by decide)]; exact s98
  have m99 : mF 99 S = (J : Int) := by rw [rmp 99 (by decide)]; exact k6
  have m46 : mF 84 46 = -1 := by rw [rp8 46 (by decide) (by decide), k2 46 (by decide) (by decide)]; exact s46
  have x4 : mF 104 = mp 104 := rmp 104 (by decide)
  have x5 : mF 105 = mp 105 := rmp 105 (by decide)
  have sfc : SFc sc sF := ⟨fun c x => rc c (by omega), fun j x y => by rw [o2 j x y, y2 j x y, q13 j x y], fun j x => by rw [rcp 30 (by decide), y3 j x, q14 j x], fun j x => by rw [rcp 31 (by decide), y4 j x, q12 31 (by decide)], W8.of (B := B) (by rw [rcp 31 (by decide)]; exact y6) (by omega)⟩
  have sfm : SFm sm mF := ⟨fun c x => rm c (by omega), fun j x => r8 j (by omega) (by omega) (by omega) (by omega)⟩
  have rx : RXF sc sm sF mF S P A N C := ⟨fun c i x y z => r57 c i x (by omega) (by omega), fun c i x y z => r94 c i x (by omega) (by omega), fun c p x y z => by rw [rmp c (by omega), k4 c p x y z, HDm_row (by omega)], fun c i x y z => by rw [rm c (by omega)], fun c j x y z => by rw [rc c (by omega)], fun n x => by rw [rc 48 (by decide)], fun c n x y z => by rw [rm c (by omega)], fun c x => rc c (by omega)⟩
  have z1 : a + 1 < T.z := by omega
  have v1 := hT.2.2.2.2.1 (a + 1) z1
  have v2 := hT.2.2.2.2.2.1 (a + 1) z1 t1
  have pa := hp.add (k := a + 1) (b + 1 - (a + 1)) (by omega)
  rw [show a + 1 + (b + 1 - (a + 1)) = b + 1 by omega] at pa
  have p4 := hp.2.1 a (by omega) (by omega) (by omega) t1
  have cnF : CN sF ↔ CN scp := by unfold CN; rw [rcp 30 (by decide)]
  have r36 : ∀ i, sF 36 i = s1 36 i := fun i => by rw [rcp 36 (by decide), y1 36 (by decide)]
  have owr : OWR T sF mF (S + 1) := by
    intro id hid
    by_cases e : id = (T.vl (a + 1)).toNat
    · right
      refine ⟨S, by omega, by rw [e, r36]; exact q8, ?_⟩
      rw [m95, Int.toNat_natCast, e]
      omega
    · rw [r36, q9 id e]
      rcases e17.2.2.2.2.2.1 id hid with ⟨u1, u2⟩ | ⟨i, u1, u2, u3⟩
      · left
        refine ⟨u1, fun i hi => ?_⟩
        by_cases e2 : i = S
        · rw [e2, m95, Int.toNat_natCast]
          omega
        · rw [r94 95 i (by decide) (by decide) e2]
          exact u2 i (by omega)
      · right
        exact ⟨i, by omega, u2, by rw [r94 95 i (by decide) (by decide) (by omega)]; exact u3⟩
  have srl : SRL T sF mF (P + J) N S := by
    refine ⟨a + 1, P, J, N, by rw [r55 56 S (by decide) (by decide) (by decide) (by decide)]; exact q3, m95, z1, t1, by rw [r55 55 S (by decide) (by decide) (by decide) (by decide), q2, m94], m98, m99, Nat.le_refl _, by rw [r55 60 S (by decide) (by decide) (by decide) (by decide)]; exact q7, Nat.le_refl _, Or.inr (Or.inr (Or.inr ⟨m94, by rw [rcp 58 (by decide)]; exact y7, ⟨f, f0, by rw [fj]; exact zb, by rw [fj]; exact tb, ?_⟩, ?_⟩))⟩
    · rw [x4, x5]
      exact fs
    · rw [rcp 57 (by decide), y8]
      exact (bsm_congr (by rw [rc 43 (by decide), q12 43 (by decide)]) J (fun c p u v _ => by rw [rmp c (by omega)])).symm
  have gpt : GPT T s1 mp P J ↔ GPT T sF mF P J := by
    unfold GPT BIN
    rw [x4, x5, rc 40 (by decide), rc 42 (by decide), rc 43 (by decide), q12 40 (by decide), q12 42 (by decide), q12 43 (by decide)]
  have dup : sc 36 (T.vl (a + 1)).toNat = -1 ↔ ∀ j, j < S → T.vl (mF 95 j).toNat ≠ T.vl (mF 95 S).toNat := by
    rw [m95, Int.toNat_natCast]
    rcases e17.2.2.2.2.2.1 (T.vl (a + 1)).toNat (IDN.at hT (x := a + 1) (by omega) t1) with ⟨u1, u2⟩ | ⟨i, u1, u2, u3⟩
    · refine ⟨fun _ j hj e => u2 j hj ?_, fun _ => u1⟩
      rw [r94 95 j (by decide) (by decide) (by omega)] at e
      omega
    · refine ⟨fun e => absurd e (by omega), fun e => absurd ?_ (e i u1)⟩
      rw [r94 95 i (by decide) (by decide) (by omega)]
      omega
  have gst : GST T sF mF S ↔ sc 36 (T.vl (a + 1)).toNat = -1 ∧ GPT T s1 mp P J := by
    unfold GST
    rw [m94, m98, m99, dup, gpt, Int.toNat_natCast, Int.toNat_natCast]
    exact ⟨fun ⟨u1, u2, u3, u4, u5⟩ => ⟨u4, u5⟩, fun ⟨u4, u5⟩ => ⟨fun y => absurd y (by decide), fun y => absurd y (by decide), fun y => absurd y (by decide), u4, u5⟩⟩
  have dat : DAT T sF mF (S + 1) (P + J) A N C w := by
    refine e17.ext rx (by omega) (by omega) (Nat.le_refl _) (Nat.le_refl _) (Nat.le_refl _) (fun i y z => by rw [show i = S by omega]; exact srl) (fun _ y z => absurd z (by omega)) (fun _ y z => absurd z (by omega)) (fun _ _ y z => absurd z (by omega)) (fun _ y z => absurd z (by omega)) (fun s y z u => ?_) (fun _ y z => absurd z (by omega)) (fun _ _ y z => absurd z (by omega)) owr ⟨by omega, fun i y z => by rw [show i = S by omega, r55 60 S (by decide) (by decide) (by decide) (by decide)]; exact q7, fun p y z => ⟨S, by omega, by rw [m98, Int.toNat_natCast]; exact y, by rw [m98, m99, Int.toNat_natCast, Int.toNat_natCast]; exact z⟩, fun i y z u => by rw [show i = S by omega, m94] at u; exact absurd u (by decide), fun y => absurd y (by omega)⟩ (CLE.same _ (by rw [e4, l1]; omega)) ⟨fun i y z => by rw [show i = S by omega, m95, e4]; omega, fun i y z u => by rw [show i = S by omega, m94] at u; exact absurd u (by decide)⟩ ?_
    · rw [show s = S by omega, m94] at u
      exact absurd u (by decide)
    · rw [cnF, g2, hcn]
      exact ⟨fun y => ⟨y.1.1, fun i z1 z2 => by rw [show i = S by omega, gst]; exact ⟨y.1.2, y.2⟩, fun _ y z => absurd z (by omega), fun _ y z => absurd z (by omega)⟩, fun y => by
        have := gst.mp (y.2.1 S (Nat.le_refl _) (by omega))
        exact ⟨⟨y.1, this.1⟩, this.2⟩⟩
  have dd : ∀ j, a + j ≤ b → dpt T (a + j) = 0 := by
    intro j hj
    rw [dpt_in (T := T) (a := a) j (fun k x y => ?_)]
    · exact hdp
    · by_cases j0 : k = a
      · rw [j0, t0]; decide
      · by_cases j1 : k = a + 1
        · rw [j1, t1]; decide
        · have := pq k (by omega) (by omega)
          exact ⟨this.2.1, this.2.2.1⟩
  have db : dpt T b = 0 := by
    have := dd (b - a) (by omega)
    rw [show a + (b - a) = b by omega] at this
    exact this
  refine ⟨?_, ?_, ?_, Or.inl (by rw [show b + 1 - 1 = b by omega]; exact tb)⟩
  · refine ⟨sfc.cc e1, sfm.mc e2, o1, l1, by rw [r8 6 (by decide) (by decide) (by decide) (by decide)]; exact e5, ?_, by rw [rc 66 (by decide)]; exact e7, ?_, ?_, by rw [r55 54 6 (by decide) (by decide) (by decide) (by decide)]; exact q1, by rw [rp8 31 (by decide) (by decide)]; exact k5, by rw [r8 34 (by decide) (by decide) (by decide) (by decide)]; exact e12, by rw [rc 61 (by decide)]; exact e13, by rw [rcp 31 (by decide)]; exact y6, e15.trans sfc, e16.trans sfm, dat, ?_, ?_, ?_, by omega, by omega, by omega, by omega, by omega, e26, by omega, by rw [r8 30 (by decide) (by decide) (by decide) (by decide)]; exact e28, by rw [r55 54 7 (by decide) (by decide) (by decide) (by decide), q11 7 (by decide)]; exact e29, e30, e31⟩
    · exact e6.congr (by rw [rc 46 (by decide)]) (r8 47 (by decide) (by decide) (by decide) (by decide)) (r8 57 (by decide) (by decide) (by decide) (by decide)) (fun c n x y _ => by rw [rc c (by omega)]) (fun c n x y _ => by rw [rm c (by omega)]) (fun j _ => by rw [rm 125 (by decide)])
    · intro k x y
      obtain ⟨u1, u2, u3, u4⟩ := e8 k (by omega) y
      obtain ⟨w1, w2⟩ := y9 k (Or.inr (by omega))
      exact ⟨by rw [rcp 45 (by decide), w1, q12 45 (by decide)]; exact u1, by rw [rm 91 (by decide)]; exact u2, by rw [rm 92 (by decide)]; exact u3, by rw [rmp 93 (by decide), w2, HDm_row (by decide)]; exact u4⟩
    · intro k x
      by_cases c1 : a + 1 < k ∧ k < b
      · exact (y10 k c1.1 c1.2).congr (by rw [rcp 45 (by decide)]) (by rw [rmp 91 (by decide)]) (by rw [rmp 92 (by decide)]) (by rw [rmp 93 (by decide)])
      · have hk : LF T sc sm k := by
          by_cases e : k < a
          · exact e9 k e
          · exact (e8 k (by omega) (by omega)).lf
        obtain ⟨w1, w2⟩ := y9 k (by omega)
        exact hk.congr (by rw [rcp 45 (by decide), w1, q12 45 (by decide)]) (by rw [rm 91 (by decide)]) (by rw [rm 92 (by decide)]) (by rw [rmp 93 (by decide), w2, HDm_row (by decide)])
    · intro i hi
      by_cases e : i = S
      · rw [e, r55 59 S (by decide) (by decide) (by decide) (by decide), q6, rS 102 (by decide) (by decide) (by decide), s102]
      · rw [r57 59 i (by decide) (by decide) e, r94 102 i (by decide) (by decide) e]
        exact e18 i (by omega)
    · intro k x y
      by_cases c1 : k < a
      · exact e19 k x c1
      · by_cases c2 : k = a
        · subst c2
          exact Or.inr (Or.inr (Or.inr (Or.inl ⟨htl, by omega, by omega⟩)))
        · by_cases c3 : k = a + 1
          · subst c3
            rw [show a + 1 - 1 = a by omega]
            exact Or.inr (Or.inr (Or.inr (Or.inr (Or.inl ⟨by omega, by omega, t1⟩))))
          · by_cases c4 : k = b
            · subst c4
              exact Or.inr (Or.inl ⟨by rcases pb with u | u <;> rw [u] <;> decide, Or.inr tb⟩)
            · exact (pq k (by omega) (by omega)).1
    · intro k x
      by_cases c1 : k < a
      · exact e20 k c1
      · by_cases c2 : k = a
        · subst c2
          exact ⟨fun _ => ⟨by omega, htl, hdp⟩, fun _ => by omega⟩
        · by_cases c3 : k = a + 1
          · subst c3
            exact STT.inn (by rw [t1]; decide) (by rw [show a + 1 - 1 = a by omega]; omega) (by rw [show a + 1 - 1 = a by omega]; omega)
          · by_cases c4 : k = b
            · subst c4
              exact STT.inn (by rw [tb]; decide) (by rcases pb with u | u <;> rw [u] <;> decide) (by rcases pb with u | u <;> rw [u] <;> decide)
            · have u := pq k (by omega) (by omega)
              by_cases c5 : k = a + 2
              · refine STT.inn u.2.2.2.1 ?_ ?_ <;> rw [c5, show a + 2 - 1 = a + 1 by omega, t1] <;> decide
              · have u' := pq (k - 1) (by omega) (by omega)
                exact STT.inn u.2.2.2.1 u'.2.2.2.2 u'.2.2.1
  · refine ⟨o3, l2, by omega, by omega, fun i hi => ?_, fun i hi => ?_, fun i j x y => ?_, ?_, o5, l3, Nat.le_refl _, fun cn => ⟨?_, fun i x y => absurd y (by omega)⟩⟩
    · rw [show i = 0 by omega, l3, o4, l4, hm0, u2_col _ _ _ (by decide), k2 46 (by decide) (by decide), s46]
      exact ⟨Or.inl rfl, by decide, by decide, by omega, fun z => absurd z (by decide)⟩
    · rw [show i = 0 by omega, o5]
      exact ⟨by decide, by omega, fun z => absurd z (by decide)⟩
    · rw [show i = 0 by omega, show j = 0 by omega]
      exact Int.le_refl _
    · rw [m46, show 1 - 1 = 0 by omega, l4, hm0, u2_col _ _ _ (by decide), k2 46 (by decide) (by decide), s46]
    · rw [m46]
      exact (g3 (cnF.mp cn)).rows (A := 8200) (by rw [rcp 31 (by decide)]) (rcp 38 (by decide)) (rcp 37 (by decide)) (by rw [rmp 98 (by decide)]) (by rw [rmp 99 (by decide)]) x4 x5 (fun i _ => ⟨by rw [rmp 107 (by decide)], by rw [rmp 113 (by decide)]⟩) (by decide)
  · refine ⟨by rw [r8 19 (by decide) (by decide) (by decide) (by decide)]; exact h19, by omega, fun i hi => ?_, by rw [rS 103 (by decide) (by decide) (by decide), s103, r55 60 S (by decide) (by decide) (by decide) (by decide), q7], m94, ?_⟩
    · rw [r57 60 i (by decide) (by decide) (by omega), r94 103 i (by decide) (by decide) (by omega), hnc i hi]
      by_cases e2 : i + 1 < S
      · rw [if_pos e2, r57 60 (i + 1) (by decide) (by decide) (by omega)]
      · rw [if_neg e2, show i + 1 = S by omega, r55 60 S (by decide) (by decide) (by decide) (by decide), q7]
    · have e2 : dpt T (b + 1) = dpt T b + (if T.tk b = 123 then 1 else if T.tk b = 125 then -1 else 0) := rfl
      rw [e2, if_pos tb, db]
      rfl
end ENT
