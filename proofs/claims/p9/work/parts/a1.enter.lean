/-! AN INSTRUCTION's first body is open. -/
section ENT
variable {T : TT} {sc0 sm0 sc sm s1 scp mp : Sg} {a b S P A N K C J B w : Nat}
/-- the lexemes of its parts -/
theorem ILS.tks (h : ILS T s1 (HDm sm S P N a 3) scp mp (a + 1) S P J B b) (t1 : T.tk (a + 1) = 1) : (∀ k, a + 2 ≤ k → k < b → PRQ (T.tk (k - 1)) (T.tk k) ∧ T.tk k ≠ 123 ∧ T.tk k ≠ 125 ∧ ¬ (17 ≤ T.tk k ∧ T.tk k ≤ 20) ∧ T.tk k ≠ 59) ∧ (T.tk (b - 1) = 1 ∨ T.tk (b - 1) = 2) ∧ a + 2 ≤ b := by
  obtain ⟨-, -, -, -, -, -, -, -, -, -, -, -, -, -, -, -, ⟨f, f0, fj, fs⟩, -, -, -⟩ := h
  have key : ∀ j, j ≤ J → a + 2 ≤ f j ∧ (T.tk (f j - 1) = 1 ∨ T.tk (f j - 1) = 2) ∧ ∀ k, a + 2 ≤ k → k < f j → PRQ (T.tk (k - 1)) (T.tk k) ∧ T.tk k ≠ 123 ∧ T.tk k ≠ 125 ∧ ¬ (17 ≤ T.tk k ∧ T.tk k ≤ 20) ∧ T.tk k ≠ 59 := by
    intro j
    induction j with
    | zero =>
      intro _
      rw [f0]
      exact ⟨by omega, by rw [show a + 1 + 1 - 1 = a + 1 by omega]; exact Or.inl t1, fun k x y => absurd y (by omega)⟩
    | succ j ih =>
      intro hj
      obtain ⟨i1, i2, i3⟩ := ih (by omega)
      rcases fs j (by omega) with ⟨g1, g2, g3, g4⟩ | ⟨g1, g2, g3, g4, g5, g6⟩
      · rw [g4]
        refine ⟨by omega, by rw [show f j + 1 - 1 = f j by omega]; exact Or.inr g1, fun k x y => ?_⟩
        by_cases c : k < f j
        · exact i3 k x c
        · rw [show k = f j by omega, g1]
          refine ⟨?_, by decide, by decide, by decide, by decide⟩
          rcases i2 with e | e <;> rw [e] <;> exact Or.inr (Or.inr (Or.inl (by decide)))
      · rw [g6]
        refine ⟨by omega, by rw [show f j + 3 - 1 = f j + 2 by omega]; exact Or.inr g3, fun k x y => ?_⟩
        by_cases c : k < f j
        · exact i3 k x c
        · by_cases c1 : k = f j
          · rw [c1, g1]
            refine ⟨?_, by decide, by decide, by decide, by decide⟩
            rcases i2 with e | e <;> rw [e] <;> exact Or.inr (Or.inr (Or.inl (by decide)))
          · by_cases c2 : k = f j + 1
            · rw [c2, show f j + 1 - 1 = f j by omega, g1, g2]
              exact ⟨Or.inl (Or.inr (Or.inl (by decide))), by decide, by decide, by decide, by decide⟩
            · rw [show k = f j + 2 by omega, show f j + 2 - 1 = f j + 1 by omega, g2, g3]
              exact ⟨Or.inl (Or.inl (by decide)), by decide, by decide, by decide, by decide⟩
  obtain ⟨k1, k2, k3⟩ := key J (Nat.le_refl _)
  rw [fj] at k1 k2 k3
  exact ⟨k3, k2, k1⟩
theorem ins_ps1 (hT : TWF T) (hp : POS T) (h : PS0 T sc0 sm0 sc sm a S P A N K C w) (t0 : T.tk a = 20) (t1 : T.tk (a + 1) = 1) (hd : HDd sc s1 S (a + 1) N (T.vl (a + 1)).toNat 3) (hcn : CN s1 ↔ CN sc ∧ sc 36 (T.vl (a + 1)).toNat = -1) (il : ILS T s1 (HDm sm S P N a 3) scp mp (a + 1) S P J B b) (hu : CU T scp b) (hu2 : mp 84 18 = (b : Int)) (tb : T.tk b = 123) :
    PS1 T sc0 sm0 (OBc T scp 0 20 0 b) (OBm (ax_u2 mp 84 43 0) 0 0 b) (b + 1) S (P + J) A N K C B 1 B w := by
  obtain ⟨pq, pb, ab⟩ := il.tks t1
  obtain ⟨hB, h70, h19, h7, h37, hnc, htl, hdp⟩ := h
  obtain ⟨e1, e2, e3, e4, e5, e6, e7, e8, e9, e10, e11, e12, e13, e14, e15, e16, e17, e18, e19, e20, e21, e22, e23, e24, e25, e26, e27, e28, e29, e30, e31⟩ := hB
  obtain ⟨q1, q2, q3, q4, q5, q6, q7, q8, q9, q10, q11, q12, q13, q14⟩ := hd
  obtain ⟨y1, y2, y3, y4, y5, y6, y7, y8, k1, k2, k3, k4, k5, k6, y9, y10, ⟨f, f0, fj, fs⟩, g2, g3, g4⟩ := il
  obtain ⟨s46, s94, s95, s96, s98, s99, s102, s103⟩ := HDm_S (sm := sm) (S := S) (P := P) (N := N) (a := a) (kd := 3)
  have h8 := hT.1
  have zb := hT.lt hu.2.2 (by rw [tb]; decide)
  obtain ⟨o1, o2, o3, o4, o5, o6, o7⟩ := OBc_at (T := T) (s := scp) (D := 0) (wd := 20) (mk := 0) (b := b) (by omega)
  obtain ⟨m0, hm0⟩ : ∃ s : Sg, s = ax_u2 mp 84 43 0 := ⟨_, rfl⟩
  obtain ⟨l1, l2, l3, l4, l5, l6⟩ := OBm_at (m := m0) (D := 0) (x := 0) (b := b)
  obtain ⟨sF, hsF⟩ : ∃ s : Sg, s = OBc T scp 0 20 0 b := ⟨_, rfl⟩
  obtain ⟨mF, hmF⟩ : ∃ s : Sg, s = OBm m0 0 0 b := ⟨_, rfl⟩
  have rcp : ∀ c, ¬ (c = 39 ∨ 70 ≤ c ∧ c ≤ 72) → sF c = scp c := fun c y => by rw [hsF, OBc_row (by omega)]
  have rmp : ∀ c, ¬ (c = 84 ∨ c = 114 ∨ c = 115) → mF c = mp c := fun c y => by rw [hmF, OBm_row (by omega), hm0, u2_row _ _ _ (by omega)]
  have rp8 : ∀ j, j ≠ 18 → j ≠ 43 → mF 84 j = mp 84 j := fun j y z => by rw [hmF, OBm_84 y z, hm0, u2_col _ _ _ z]
  rw [← hsF] at o1 o2 o3 o4 o5 o6 o7
  rw [← hmF] at l1 l2 l3 l4 l5 l6
  rw [← hm0, ← hsF, ← hmF]
  have rc : ∀ c, ¬ (c = 30 ∨ c = 31 ∨ 36 ≤ c ∧ c ≤ 39 ∨ c = 45 ∨ 54 ≤ c ∧ c ≤ 60 ∨ 70 ≤ c ∧ c ≤ 72) → sF c = sc c := fun c y => by rw [rcp c (by omega), y1 c (by omega), q12 c (by omega)]
  have rm : ∀ c, ¬ (c = 84 ∨ c = 93 ∨ 94 ≤ c ∧ c ≤ 105 ∨ c = 114 ∨ c = 115) → mF c = sm c := fun c y => by rw [rmp c (by omega), k1 c (by omega), HDm_row (by omega)]
  have r8 : ∀ j, j ≠ 18 → j ≠ 31 → j ≠ 43 → j ≠ 46 → mF 84 j = sm 84 j := fun j x y z u => by rw [rp8 j x z, k2 j x y, HDm_84 u x]
  have r55 : ∀ c i, 54 ≤ c → c ≤ 60 → c ≠ 57 → c ≠ 58 → sF c i = s1 c i := fun c i x y z u => by rw [rcp c (by omega), y1 c (by omega)]
  have r57 : ∀ c i, 55 ≤ c → c ≤ 60 → i ≠ S → sF c i = sc c i := fun c i x y z => by
    by_cases c7 : c = 57 ∨ c = 58
    · rw [rcp c (by omega), y5 c i (by omega) (by omega) z]; exact q10 c i x y z
    · rw [r55 c i (by omega) (by omega) (by omega) (by omega)]; exact q10 c i x y z
  have r94 : ∀ c i, 94 ≤ c → c ≤ 103 → i ≠ S → mF c i = sm c i := fun c i x y z => by
    rw [rmp c (by omega)]
    by_cases c9 : c = 99
    · subst c9; rw [k3 i z, HDm_col (by decide) z]
    · rw [k1 c (by omega), HDm_col (by omega) z]
  have rS : ∀ c, 94 ≤ c → c ≤ 103 → c ≠ 99 → mF c S = HDm sm S P N a 3 c S := fun c x y z => by rw [rmp c (by omega), k1 c (by omega)]
  have m94 : mF 94 S = 3 := by rw [rS 94 (by decide) (by decide) (by decide)]; exact s94
  have m95 : mF 95 S = ((a + 1 : Nat) : Int) := by rw [rS 95 (by decide) (by decide) (by decide)]; exact s95
  have m98 : mF 98 S = (P : Int) := by rw [rS 98 (by decide) (by decide) (by decide)]; exact s98
  have m99 : mF 99 S = (J : Int) := by rw [rmp 99 (by decide)]; exact k6
  have m46 : mF 84 46 = -1 := by rw [rp8 46 (by decide) (by decide), k2 46 (by decide) (by decide)]; exact s46
  have x4 : mF 104 = mp 104 := rmp 104 (by decide)
  have x5 : mF 105 = mp 105 := rmp 105 (by decide)
  have sfc : SFc sc sF := ⟨fun c x => rc c (by omega), fun j x y => by rw [o2 j x y, y2 j x y, q13 j x y], fun j x => by rw [rcp 30 (by decide), y3 j x, q14 j x], fun j x => by rw [rcp 31 (by decide), y4 j x, q12 31 (by decide)], W8.of (B := B) (by rw [rcp 31 (by decide)]; exact y6) (by omega)⟩
  have sfm : SFm sm mF := ⟨fun c x => rm c (by omega), fun j x => r8 j (by omega) (by omega) (by omega) (by omega)⟩
  have rx : RXF sc sm sF mF S P A N C := ⟨fun c i x y z => r57 c i x (by omega) (by omega), fun c i x y z => r94 c i x (by omega) (by omega), fun c p x y z => by rw [rmp c (by omega), k4 c p x y z, HDm_row (by omega)], fun c i x y z => by rw [rm c (by omega)], fun c j x y z => by rw [rc c (by omega)], fun n x => by rw [rc 48 (by decide)], fun c n x y z => by rw [rm c (by omega)], fun c x => rc c (by omega)⟩
  have z1 : a + 1 < T.z := by omega
  have v1 := hT.2.2.2.2.1 (a + 1) z1
  have v2 := hT.2.2.2.2.2.1 (a + 1) z1 t1
  have pa := hp.add (k := a + 1) (b + 1 - (a + 1)) (by omega)
  rw [show a + 1 + (b + 1 - (a + 1)) = b + 1 by omega] at pa
  have p4 := hp.2.1 a (by omega) (by omega) (by omega) t1
  have cnF : CN sF ↔ CN scp := by unfold CN; rw [rcp 30 (by decide)]
  have r36 : ∀ i, sF 36 i = s1 36 i := fun i => by rw [rcp 36 (by decide), y1 36 (by decide)]
  have owr : OWR T sF mF (S + 1) := by
    intro id hid
    by_cases e : id = (T.vl (a + 1)).toNat
    · right
      refine ⟨S, by omega, by rw [e, r36]; exact q8, ?_⟩
      rw [m95, Int.toNat_natCast, e]
      omega
    · rw [r36, q9 id e]
      rcases e17.2.2.2.2.2.1 id hid with ⟨u1, u2⟩ | ⟨i, u1, u2, u3⟩
      · left
        refine ⟨u1, fun i hi => ?_⟩
        by_cases e2 : i = S
        · rw [e2, m95, Int.toNat_natCast]
          omega
        · rw [r94 95 i (by decide) (by decide) e2]
          exact u2 i (by omega)
      · right
        exact ⟨i, by omega, u2, by rw [r94 95 i (by decide) (by decide) (by omega)]; exact u3⟩
  have srl : SRL T sF mF (P + J) N S := by
    refine ⟨a + 1, P, J, N, by rw [r55 56 S (by decide) (by decide) (by decide) (by decide)]; exact q3, m95, z1, t1, by rw [r55 55 S (by decide) (by decide) (by decide) (by decide), q2, m94], m98, m99, Nat.le_refl _, by rw [r55 60 S (by decide) (by decide) (by decide) (by decide)]; exact q7, Nat.le_refl _, Or.inr (Or.inr (Or.inr ⟨m94, by rw [rcp 58 (by decide)]; exact y7, ⟨f, f0, by rw [fj]; exact zb, by rw [fj]; exact tb, ?_⟩, ?_⟩))⟩
    · rw [x4, x5]
      exact fs
    · rw [rcp 57 (by decide), y8]
      exact (bsm_congr (by rw [rc 43 (by decide), q12 43 (by decide)]) J (fun c p u v _ => by rw [rmp c (by omega)])).symm
  have gpt : GPT T s1 mp P J ↔ GPT T sF mF P J := by
    unfold GPT BIN
    rw [x4, x5, rc 40 (by decide), rc 42 (by decide), rc 43 (by decide), q12 40 (by decide), q12 42 (by decide), q12 43 (by decide)]
  have dup : sc 36 (T.vl (a + 1)).toNat = -1 ↔ ∀ j, j < S → T.vl (mF 95 j).toNat ≠ T.vl (mF 95 S).toNat := by
    rw [m95, Int.toNat_natCast]
    rcases e17.2.2.2.2.2.1 (T.vl (a + 1)).toNat (IDN.at hT (x := a + 1) (by omega) t1) with ⟨u1, u2⟩ | ⟨i, u1, u2, u3⟩
    · refine ⟨fun _ j hj e => u2 j hj ?_, fun _ => u1⟩
      rw [r94 95 j (by decide) (by decide) (by omega)] at e
      omega
    · refine ⟨fun e => absurd e (by omega), fun e => absurd ?_ (e i u1)⟩
      rw [r94 95 i (by decide) (by decide) (by omega)]
      omega
  have gst : GST T sF mF S ↔ sc 36 (T.vl (a + 1)).toNat = -1 ∧ GPT T s1 mp P J := by
    unfold GST
    rw [m94, m98, m99, dup, gpt, Int.toNat_natCast, Int.toNat_natCast]
    exact ⟨fun ⟨u1, u2, u3, u4, u5⟩ => ⟨u4, u5⟩, fun ⟨u4, u5⟩ => ⟨fun y => absurd y (by decide), fun y => absurd y (by decide), fun y => absurd y (by decide), u4, u5⟩⟩
  have dat : DAT T sF mF (S + 1) (P + J) A N C w := by
    refine e17.ext rx (by omega) (by omega) (Nat.le_refl _) (Nat.le_refl _) (Nat.le_refl _) (fun i y z => by rw [show i = S by omega]; exact srl) (fun _ y z => absurd z (by omega)) (fun _ y z => absurd z (by omega)) (fun _ _ y z => absurd z (by omega)) (fun _ y z => absurd z (by omega)) (fun s y z u => ?_) (fun _ y z => absurd z (by omega)) (fun _ _ y z => absurd z (by omega)) owr ⟨by omega, fun i y z => by rw [show i = S by omega, r55 60 S (by decide) (by decide) (by decide) (by decide)]; exact q7, fun p y z => ⟨S, by omega, by rw [m98, Int.toNat_natCast]; exact y, by rw [m98, m99, Int.toNat_natCast, Int.toNat_natCast]; exact z⟩, fun i y z u => by rw [show i = S by omega, m94] at u; exact absurd u (by decide), fun y => absurd y (by omega)⟩ (CLE.same _ (by rw [e4, l1]; omega)) ⟨fun i y z => by rw [show i = S by omega, m95, e4]; omega, fun i y z u => by rw [show i = S by omega, m94] at u; exact absurd u (by decide)⟩ ?_
    · rw [show s = S by omega, m94] at u
      exact absurd u (by decide)
    · rw [cnF, g2, hcn]
      exact ⟨fun y => ⟨y.1.1, fun i z1 z2 => by rw [show i = S by omega, gst]; exact ⟨y.1.2, y.2⟩, fun _ y z => absurd z (by omega), fun _ y z => absurd z (by omega)⟩, fun y => by
        have := gst.mp (y.2.1 S (Nat.le_refl _) (by omega))
        exact ⟨⟨y.1, this.1⟩, this.2⟩⟩
  have dd : ∀ j, a + j ≤ b → dpt T (a + j) = 0 := by
    intro j hj
    rw [dpt_in (T := T) (a := a) j (fun k x y => ?_)]
    · exact hdp
    · by_cases j0 : k = a
      · rw [j0, t0]; decide
      · by_cases j1 : k = a + 1
        · rw [j1, t1]; decide
        · have := pq k (by omega) (by omega)
          exact ⟨this.2.1, this.2.2.1⟩
  have db : dpt T b = 0 := by
    have := dd (b - a) (by omega)
    rw [show a + (b - a) = b by omega] at this
    exact this
  refine ⟨?_, ?_, ?_, Or.inl (by rw [show b + 1 - 1 = b by omega]; exact tb)⟩
  · refine ⟨sfc.cc e1, sfm.mc e2, o1, l1, by rw [r8 6 (by decide) (by decide) (by decide) (by decide)]; exact e5, ?_, by rw [rc 66 (by decide)]; exact e7, ?_, ?_, by rw [r55 54 6 (by decide) (by decide) (by decide) (by decide)]; exact q1, by rw [rp8 31 (by decide) (by decide)]; exact k5, by rw [r8 34 (by decide) (by decide) (by decide) (by decide)]; exact e12, by rw [rc 61 (by decide)]; exact e13, by rw [rcp 31 (by decide)]; exact y6, e15.trans sfc, e16.trans sfm, dat, ?_, ?_, ?_, by omega, by omega, by omega, by omega, by omega, e26, by omega, by rw [r8 30 (by decide) (by decide) (by decide) (by decide)]; exact e28, by rw [r55 54 7 (by decide) (by decide) (by decide) (by decide), q11 7 (by decide)]; exact e29, e30, e31⟩
    · exact e6.congr (by rw [rc 46 (by decide)]) (r8 47 (by decide) (by decide) (by decide) (by decide)) (r8 57 (by decide) (by decide) (by decide) (by decide)) (fun c n x y _ => by rw [rc c (by omega)]) (fun c n x y _ => by rw [rm c (by omega)]) (fun j _ => by rw [rm 125 (by decide)])
    · intro k x y
      obtain ⟨u1, u2, u3, u4⟩ := e8 k (by omega) y
      obtain ⟨w1, w2⟩ := y9 k (Or.inr (by omega))
      exact ⟨by rw [rcp 45 (by decide), w1, q12 45 (by decide)]; exact u1, by rw [rm 91 (by decide)]; exact u2, by rw [rm 92 (by decide)]; exact u3, by rw [rmp 93 (by decide), w2, HDm_row (by decide)]; exact u4⟩
    · intro k x
      by_cases c1 : a + 1 < k ∧ k < b
      · exact (y10 k c1.1 c1.2).congr (by rw [rcp 45 (by decide)]) (by rw [rmp 91 (by decide)]) (by rw [rmp 92 (by decide)]) (by rw [rmp 93 (by decide)])
      · have hk : LF T sc sm k := by
          by_cases e : k < a
          · exact e9 k e
          · exact (e8 k (by omega) (by omega)).lf
        obtain ⟨w1, w2⟩ := y9 k (by omega)
        exact hk.congr (by rw [rcp 45 (by decide), w1, q12 45 (by decide)]) (by rw [rm 91 (by decide)]) (by rw [rm 92 (by decide)]) (by rw [rmp 93 (by decide), w2, HDm_row (by decide)])
    · intro i hi
      by_cases e : i = S
      · rw [e, r55 59 S (by decide) (by decide) (by decide) (by decide), q6, rS 102 (by decide) (by decide) (by decide), s102]
      · rw [r57 59 i (by decide) (by decide) e, r94 102 i (by decide) (by decide) e]
        exact e18 i (by omega)
    · intro k x y
      by_cases c1 : k < a
      · exact e19 k x c1
      · by_cases c2 : k = a
        · subst c2
          exact Or.inr (Or.inr (Or.inr (Or.inl ⟨htl, by omega, by omega⟩)))
        · by_cases c3 : k = a + 1
          · subst c3
            rw [show a + 1 - 1 = a by omega]
            exact Or.inr (Or.inr (Or.inr (Or.inr (Or.inl ⟨by omega, by omega, t1⟩))))
          · by_cases c4 : k = b
            · subst c4
              exact Or.inr (Or.inl ⟨by rcases pb with u | u <;> rw [u] <;> decide, Or.inr tb⟩)
            · exact (pq k (by omega) (by omega)).1
    · intro k x
      by_cases c1 : k < a
      · exact e20 k c1
      · by_cases c2 : k = a
        · subst c2
          exact ⟨fun _ => ⟨by omega, htl, hdp⟩, fun _ => by omega⟩
        · by_cases c3 : k = a + 1
          · subst c3
            exact STT.inn (by rw [t1]; decide) (by rw [show a + 1 - 1 = a by omega]; omega) (by rw [show a + 1 - 1 = a by omega]; omega)
          · by_cases c4 : k = b
            · subst c4
              exact STT.inn (by rw [tb]; decide) (by rcases pb with u | u <;> rw [u] <;> decide) (by rcases pb with u | u <;> rw [u] <;> decide)
            · have u := pq k (by omega) (by omega)
              by_cases c5 : k = a + 2
              · refine STT.inn u.2.2.2.1 ?_ ?_ <;> rw [c5, show a + 2 - 1 = a + 1 by omega, t1] <;> decide
              · have u' := pq (k - 1) (by omega) (by omega)
                exact STT.inn u.2.2.2.1 u'.2.2.2.2 u'.2.2.1
  · refine ⟨o3, l2, by omega, by omega, fun i hi => ?_, fun i hi => ?_, fun i j x y => ?_, ?_, o5, l3, Nat.le_refl _, fun cn => ⟨?_, fun i x y => absurd y (by omega)⟩⟩
    · rw [show i = 0 by omega, l3, o4, l4, hm0, u2_col _ _ _ (by decide), k2 46 (by decide) (by decide), s46]
      exact ⟨Or.inl rfl, by decide, by decide, by omega, fun z => absurd z (by decide)⟩
    · rw [show i = 0 by omega, o5]
      exact ⟨by decide, by omega, fun z => absurd z (by decide)⟩
    · rw [show i = 0 by omega, show j = 0 by omega]
      exact Int.le_refl _
    · rw [m46, show 1 - 1 = 0 by omega, l4, hm0, u2_col _ _ _ (by decide), k2 46 (by decide) (by decide), s46]
    · rw [m46]
      exact (g3 (cnF.mp cn)).rows (A := 8200) (by rw [rcp 31 (by decide)]) (rcp 38 (by decide)) (rcp 37 (by decide)) (by rw [rmp 98 (by decide)]) (by rw [rmp 99 (by decide)]) x4 x5 (fun i _ => ⟨by rw [rmp 107 (by decide)], by rw [rmp 113 (by decide)]⟩) (by decide)
  · refine ⟨by rw [r8 19 (by decide) (by decide) (by decide) (by decide)]; exact h19, by omega, fun i hi => ?_, by rw [rS 103 (by decide) (by decide) (by decide), s103, r55 60 S (by decide) (by decide) (by decide) (by decide), q7], m94, ?_⟩
    · rw [r57 60 i (by decide) (by decide) (by omega), r94 103 i (by decide) (by decide) (by omega), hnc i hi]
      by_cases e2 : i + 1 < S
      · rw [if_pos e2, r57 60 (i + 1) (by decide) (by decide) (by omega)]
      · rw [if_neg e2, show i + 1 = S by omega, r55 60 S (by decide) (by decide) (by decide) (by decide), q7]
    · have e2 : dpt T (b + 1) = dpt T b + (if T.tk b = 123 then 1 else if T.tk b = 125 then -1 else 0) := rfl
      rw [e2, if_pos tb, db]
      rfl
end ENT
/-! AN INSTRUCTION is over; '}' on both sides. -/
section OUTI
variable {T : TT} {sc0 sm0 sc sm sc' sm' s2 m : Sg} {a b a1 a' S P A Q N N' K K' C C' B B' D D' M np w F : Nat}
/-- the reference counts a statement -/
theorem PXB.cnt (h : PXB T sc0 sm0 sc sm a S P A Q N K C B w) {i : Nat} {x y : Int} : PXB T sc0 sm0 sc (ax_u2 (ax_u2 sm 103 i x) 84 19 y) a S P A Q N K C B w := by
  obtain ⟨e1, e2, e3, e4, e5, e6, e7, e8, e9, e10, e11, e12, e13, e14, e15, e16, e17, e18, e19, e20, e21, e22, e23, e24, e25, e26, e27, e28, e29, e30, e31⟩ := h
  have m1 : ∀ c, c ≠ 84 → c ≠ 103 → (ax_u2 (ax_u2 sm 103 i x) 84 19 y) c = sm c := fun c u v => by rw [u2_row _ _ _ u, u2_row _ _ _ v]
  have m3 : ∀ j, j ≠ 19 → (ax_u2 (ax_u2 sm 103 i x) 84 19 y) 84 j = sm 84 j := fun j u => by rw [u2_col _ _ _ u, u2_row _ _ _ (by decide)]
  obtain ⟨sm', hsm⟩ : ∃ s : Sg, s = ax_u2 (ax_u2 sm 103 i x) 84 19 y := ⟨_, rfl⟩
  rw [← hsm] at m1 m3
  rw [← hsm]
  have sfm : SFm sm sm' := ⟨fun c x => m1 c (by omega) (by omega), fun j x => m3 j (by omega)⟩
  have rx : RXF sc sm sc sm' S P A N C := ⟨fun _ _ _ _ _ => rfl, fun c i x y z => by rw [m1 c (by omega) (by omega)], fun c p x y _ => by rw [m1 c (by omega) (by omega)], fun c i x y z => by rw [m1 c (by omega) (by omega)], fun _ _ _ _ _ => rfl, fun _ _ => rfl, fun c n x y _ => by rw [m1 c (by omega) (by omega)], fun _ _ => rfl⟩
  have owr : OWR T sc sm' S := by
    intro id hid
    rw [m1 95 (by decide) (by decide)]
    exact e17.2.2.2.2.2.1 id hid
  have dat : DAT T sc sm' S P A N C w := by
    refine e17.ext rx (Nat.le_refl _) (Nat.le_refl _) (Nat.le_refl _) (Nat.le_refl _) (Nat.le_refl _) (fun _ y z => absurd z (by omega)) (fun _ y z => absurd z (by omega)) (fun _ y z => absurd z (by omega)) (fun _ _ y z => absurd z (by omega)) (fun _ y z => absurd z (by omega)) (fun _ y z => absurd z (by omega)) (fun _ y z => absurd z (by omega)) (fun _ _ y z => absurd z (by omega)) owr (PHE.same _ _ _ _ _) (CLE.same _ (by rw [m3 18 (by decide)]; exact Int.le_refl _)) (LOE.same _ _ _ _) ?_
    exact ⟨fun y => ⟨y, fun _ y z => absurd z (by omega), fun _ y z => absurd z (by omega), fun _ y z => absurd z (by omega)⟩, fun y => y.1⟩
  refine ⟨e1, sfm.mc e2, e3, by rw [m3 18 (by decide)]; exact e4, by rw [m3 6 (by decide)]; exact e5, ?_, e7, ?_, ?_, e10, by rw [m3 31 (by decide)]; exact e11, by rw [m3 34 (by decide)]; exact e12, e13, e14, e15, e16.trans sfm, dat, ?_, e19, e20, e21, e22, e23, e24, e25, e26, e27, by rw [m3 30 (by decide)]; exact e28, e29, e30, e31⟩
  · exact e6.congr rfl (m3 47 (by decide)) (m3 57 (by decide)) (fun _ _ _ _ _ => rfl) (fun c n x y _ => by rw [m1 c (by omega) (by omega)]) (fun j _ => by rw [m1 125 (by decide) (by decide)])
  · intro k x y
    obtain ⟨f1, f2, f3, f4⟩ := e8 k (by omega) y
    exact ⟨f1, by rw [m1 91 (by decide) (by decide)]; exact f2, by rw [m1 92 (by decide) (by decide)]; exact f3, by rw [m1 93 (by decide) (by decide)]; exact f4⟩
  · intro k x
    exact (e9 k x).congr rfl (by rw [m1 91 (by decide) (by decide)]) (by rw [m1 92 (by decide) (by decide)]) (by rw [m1 93 (by decide) (by decide)])
  · intro i hi
    rw [m1 102 (by decide) (by decide)]
    exact e18 i hi
/-- the last '}' of an instruction -/
theorem PS1.out (hT : TWF T) (hp : POS T) (h : PS1 T sc0 sm0 sc sm a S P A N K C B 1 np w) (t : T.tk a = 125) (k : CLd T sc s2 a B 1 0) : ∃ sm' : Sg, j_233_359 (S : Int) (ax_u2 (ax_u2 (adv sm (a + 1)) 84 43 0) 84 46 (-1)) = some sm' ∧ PS0 T sc0 sm0 s2 sm' (a + 1) (S + 1) P A N K C w := by
  have x1 := h.cls hT hp t (Nat.zero_le _) k (x := 0) (y := -1)
  obtain ⟨hS, hA, hz, h8, hC8, hB8, -, -, -⟩ := h.sz hT hp
  obtain ⟨h1, h2, ⟨q1, q2, q3, q4, q5, q6⟩, h4⟩ := h
  obtain ⟨e1, e2, e3, e4, e5, e6, e7, e8, e9, e10, e11, e12, e13, e14, e15, e16, e17, e18, e19, e20, e21, e22, e23, e24, e25, e26, e27, e28, e29, e30, e31⟩ := h1
  have z0 := hT.lt hz (by rw [t]; decide)
  obtain ⟨m0, hm0⟩ : ∃ s : Sg, s = ax_u2 (ax_u2 (adv sm (a + 1)) 84 43 0) 84 46 (-1) := ⟨_, rfl⟩
  have rm : ∀ c, c ≠ 84 → m0 c = sm c := fun c u => by rw [hm0, u2_row _ _ _ u, u2_row _ _ _ u, adv_row u]
  have r8 : ∀ j, j ≠ 18 → j ≠ 43 → j ≠ 46 → m0 84 j = sm 84 j := fun j u v z => by rw [hm0, u2_col _ _ _ z, u2_col _ _ _ v, adv_col u]
  rw [← hm0] at x1
  rw [← hm0]
  obtain ⟨k1, k2, k3, k4, k5, k6, k7, k8⟩ := id k
  obtain ⟨hh, p0, pc, n0, -, -, -, -, -, -, -, -, s60, sN, -⟩ := e17.1 S (by omega)
  have w47 : m0 84 47 = (N : Int) := by rw [r8 47 (by decide) (by decide) (by decide)]; exact e6.2.1
  have w103 : m0 103 S = (n0 : Int) := by rw [rm 103 (by decide), q4, s60]
  have w19 : m0 84 19 = (S : Int) := by rw [r8 19 (by decide) (by decide) (by decide)]; exact q1
  have w6 : m0 84 6 = 0 := by rw [r8 6 (by decide) (by decide) (by decide)]; exact e5
  refine ⟨ax_u2 (ax_u2 m0 103 S ((N : Int) - (n0 : Int))) 84 19 ((S + 1 : Nat) : Int), ?_, PXB.ps (PXB.cnt x1.px), k4, u2_same _ _ _ _, ?_, ?_, ?_, Or.inr (by rw [show a + 1 - 1 = a by omega]; exact t), ?_⟩
  · unfold j_233_359
    rw [if_pos (by omega), gd_pos (by omega), gd_pos (by omega), Int.toNat_natCast, w47, w103, w19, w32_id (z := (N : Int) - (n0 : Int)) (by omega) (by omega), w32_nat (by omega)]
  · have := hp.1 a z0
    omega
  · intro cn id hid
    have hid' := hid.lt hT
    have cn' : CN sc := by unfold CN at *; rw [k3 30 (by decide)] at cn; exact cn
    obtain ⟨b1, b2, b3, b4, b5, -⟩ := (h2.2.2.2.2.2.2.2.2.2.2.2 cn').1
    have hm := hT.2.2.2.2.2.2
    by_cases u : ∃ i, i < B ∧ sc 38 i = (id : Int)
    · obtain ⟨i, u1, u2⟩ := u
      have := k7 i (by omega) u1 (by omega) (by omega)
      rw [u2, Int.toNat_natCast] at this
      exact this
    · rw [k8 id (fun i _ hi e => u ⟨i, hi, e⟩)]
      apply Decidable.byContradiction
      intro hn
      obtain ⟨i, u1, u2⟩ := b5 id hid hn
      exact u ⟨i, u1, u2⟩
  · intro i hi
    rw [k3 60 (by decide), u2_row _ _ _ (by decide)]
    by_cases e : i = S
    · rw [e, u2_same, if_neg (by omega), s60]
      omega
    · rw [u2_col _ _ _ e, rm 103 (by decide), q3 i (by omega), if_pos (by omega)]
  · have := dpt_c t q6 (by omega)
    rw [this]
    rfl
/-- how '}' comes out -/
theorem cls_sim (hT : TWF T) (hp : POS T) (h : PS1 T sc0 sm0 sc sm a S P A N K C B D np w) (t : T.tk a = 125) (F : Nat) :
    (∃ (sc' sm' : Sg) (a' B' D' : Nat), f_144 sc = some (.inl sc') ∧ j_254_10 (F + 1) (S : Int) sm = j_254_10 F (S : Int) sm' ∧ a < a' ∧ PS1 T sc0 sm0 sc' sm' a' S P A N K C B' D' np w) ∨
    (∃ (sc' m0 sm' : Sg), f_144 sc = some (.inl sc') ∧ j_254_10 (F + 1) (S : Int) sm = j_254_10 F (S : Int) m0 ∧ m0 84 6 = 0 ∧ m0 84 43 = 0 ∧ j_233_359 (S : Int) m0 = some sm' ∧ PS0 T sc0 sm0 sc' sm' (a + 1) (S + 1) P A N K C w) ∨
    (∃ (x : Nat) (s' mF : Sg), f_144 sc = some (.inr (x, s')) ∧ (x = 14 ∨ x = 15) ∧ BSc T sc s' ∧ j_254_10 (F + 1) (S : Int) sm = j_254_10 F (S : Int) mF ∧ BSm sm mF) := by
  obtain ⟨hS, hA, hz, h8, hC8, hB8, h39, -, -⟩ := h.sz hT hp
  obtain ⟨h1, h2, h3, h4⟩ := id h
  obtain ⟨e1, e2, e3, e4, e5, e6, e7, e8, e9, e10, e11, e12, e13, e14, -⟩ := id h1
  obtain ⟨b1, b2, b3, b4, b5, b6, b7, b8, b9, b10, b11, b12⟩ := id h2
  have z0 := hT.lt hz (by rw [t]; decide)
  have hM0 := b6 (D - 1) (by omega)
  obtain ⟨M, hM⟩ : ∃ M : Nat, sc 72 (D - 1) = (M : Int) := ⟨(sc 72 (D - 1)).toNat, by omega⟩
  obtain ⟨s2, k, rc⟩ := c146 hT e1 e3 t e14 (by omega) b1 b3 b4 hM (by omega)
  have eta : ∀ o : Option (Sum Sg (Nat × Sg)), (xb o fun q => some (.inl q)) = o := fun o => by
    cases o with
    | none => rfl
    | some o => cases o <;> rfl
  have r144 : f_144 sc = f_146 sc := by
    unfold f_144
    rw [if_neg (by rw [h39, t]; simp), eta]
  have c71 : s2 71 = sc 71 := k.2.2.1 71 (by decide)
  obtain ⟨d1, d2, d3, d4, d5⟩ := b5 (D - 1) (by omega)
  have w1 : ax_w32 ((adv sm (a + 1)) 84 43 - 1) = ((D - 1 : Nat) : Int) := by rw [adv_col (by decide), b2, w32_id (by omega) (by omega)]; omega
  have r254 : j_254_10 (F + 1) (S : Int) sm = j_254_76 (j_254_10 F) (S : Int) (sm 114 (D - 1)) (if D = 1 then -1 else sm 115 (D - 2)) (ax_u2 (adv sm (a + 1)) 84 43 ((D - 1 : Nat) : Int)) := by
    rw [j_254_10, if_neg (by rw [e5]; decide), if_neg (by rw [b2]; omega), eatY e2 hT e5 e4 hz (k := 125) (by decide) t]
    rw [if_neg (by simp), show ((1 : Int), adv sm (a + 1)).snd = adv sm (a + 1) from rfl, w1, gd_pos (by omega), Int.toNat_natCast, adv_row (show 114 ≠ 84 by decide)]
    by_cases D1 : D = 1
    · rw [if_pos (by omega), if_pos D1]
    · have w2 : ax_w32 (((D - 1 : Nat) : Int) - 1) = ((D - 2 : Nat) : Int) := by rw [w32_id (by omega) (by omega)]; omega
      rw [if_neg (by omega), if_neg D1, w2, gd_pos (by omega), Int.toNat_natCast, adv_row (show 115 ≠ 84 by decide)]
  rw [r144, rc, r254, c71]
  by_cases D1 : D = 1
  · right; left
    subst D1
    have M0 : M = 0 := by
      have : sc 72 (1 - 1) = 0 := b9
      omega
    subst M0
    obtain ⟨sm', x1, x2⟩ := h.out hT hp t k
    have d10 : sm 114 (1 - 1) = 0 := b10
    rw [d10] at d2
    refine ⟨s2, ax_u2 (ax_u2 (adv sm (a + 1)) 84 43 0) 84 46 (-1), sm', ?_, ?_, ?_, ?_, x1, x2⟩
    · rw [if_pos (fun e => absurd (d2.mp e) (by decide))]
    · unfold j_254_76 j_254_97
      rw [d10, if_pos rfl, if_pos rfl]
      rfl
    · rw [u2_col _ _ _ (by decide), u2_col _ _ _ (by decide), adv_col (by decide)]; exact e5
    · rw [u2_col _ _ _ (by decide)]; exact u2_same _ _ _ _
  have x1 := h.pop hT hp t (by omega) hM k
  rw [if_neg D1]
  obtain ⟨m1, hm1⟩ : ∃ s : Sg, s = ax_u2 (ax_u2 (adv sm (a + 1)) 84 43 ((D - 1 : Nat) : Int)) 84 46 (sm 115 (D - 2)) := ⟨_, rfl⟩
  have sg1 : SFm sm m1 := by rw [hm1]; exact (adv_sf.trans (slot_sf (by decide))).trans (slot_sf (by decide))
  rw [← hm1] at x1
  unfold j_254_76 j_254_97
  rw [← hm1]
  obtain ⟨i1, i2, i3, i4, i5, -⟩ := id x1.1
  by_cases n1 : sm 114 (D - 1) = 0
  · left
    rw [n1] at d2
    exact ⟨s2, m1, a + 1, M, D - 1, by rw [if_pos (fun e => absurd (d2.mp e) (by decide))], by rw [if_pos n1], by omega, x1⟩
  have n2 : sm 114 (D - 1) = 1 := by omega
  rw [if_neg n1, if_neg (fun e => e (d2.mpr n2))]
  by_cases te : T.tk (a + 1) = 22
  rotate_left
  · left
    refine ⟨s2, m1, a + 1, M, D - 1, by rw [if_pos te], ?_, by omega, x1⟩
    rw [eatN i2 hT i4 i3.2.2 (k := 22) (by decide) (by decide) te]
    rw [if_pos rfl]
  rw [if_neg (fun e => e te), nxt hT i1 i3 (by rw [te]; decide), eatY i2 hT i5 i4 i3.2.2 (k := 22) (by decide) te]
  rw [if_neg (by simp)]
  have z1 := hT.lt i3.2.2 (by rw [te]; decide)
  have cu2 : CU T (cur T s2 (a + 1 + 1)) (a + 1 + 1) := cur_cu (by omega)
  have c70 : (cur T s2 (a + 1 + 1)) 70 9 = ((D - 1 : Nat) : Int) := by rw [cur_row (by decide)]; exact x1.2.1.1
  have sf2 : SFc sc (cur T s2 (a + 1 + 1)) := (k.sf (by omega)).trans cur_sf
  have f2 : (adv m1 (a + 1 + 1)) 84 6 = 0 := by rw [adv_col (by decide)]; exact i5
  have u2 : (adv m1 (a + 1 + 1)) 84 18 = ((a + 1 + 1 : Nat) : Int) := adv_at
  have w43 : (adv m1 (a + 1 + 1)) 84 43 = ((D - 1 : Nat) : Int) := by rw [adv_col (by decide)]; exact x1.2.1.2.1
  by_cases t2 : T.tk (a + 1 + 1) = 123
  · left
    have z2 := hT.lt cu2.2.2 (by rw [t2]; decide)
    refine ⟨_, _, a + 1 + 1 + 1, M, D - 1 + 1, ?_, ?_, by omega, x1.els hT hp te (by rw [show a + 1 - 1 = a by omega]; exact t) t2 z2 (by omega)⟩
    · rw [c154y hT (sf2.cc e1) cu2 t2 c70 (by omega), xb_inl]
      rfl
    · rw [m258y hT (adv_sf.mc i2) f2 u2 cu2.2.2 t2 w43 (by omega) (Or.inl rfl), Option.bind_some]
  · right; right
    obtain ⟨x, y1, y2⟩ := c154n (T := T) (s := cur T s2 (a + 1 + 1)) (a := a + 1 + 1) (b := D - 1) (w := 22) (m := (M : Int)) cu2 c70 (Or.inl t2)
    obtain ⟨mF, y3, y4⟩ := m258n hT (adv_sf.mc i2) f2 u2 cu2.2.2 t2 w43 (by omega) (x := 0) (Or.inl rfl)
    exact ⟨x, _, mF, by rw [y2, xb_err], y1, ⟨sf2, _, cu2⟩, by rw [y3, Option.bind_some], (sg1.trans adv_sf).trans y4.1, y4.2⟩
end OUTI
