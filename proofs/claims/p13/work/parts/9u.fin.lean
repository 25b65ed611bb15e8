/-! AN ACTION has been read. -/
/-- how an action comes out -/
def AOUT (T : TT) (sc0 sm0 sc sm : Sg) (a S P np w : Nat) (rc : Option (Sum Sg (Nat × Sg))) (rm : Option Sg) : Prop :=
  (∃ (sc' sm' : Sg) (a' A' N' K' C' B' D' : Nat), rc = some (.inl sc') ∧ rm = some sm' ∧ a < a' ∧ PS1 T sc0 sm0 sc' sm' a' S P A' N' K' C' B' D' np w) ∨ (∃ (x : Nat) (s' mF : Sg), rc = some (.inr (x, s')) ∧ (x = 14 ∨ x = 15) ∧ BSc T sc s' ∧ rm = some mF ∧ BSm sm mF)
/-- what an action's row says -/
def AKD (T : TT) (sm : Sg) (N A : Nat) : Prop :=
  (sm 106 A = 0 ∧ (∃ x : Nat, sm 107 A = (x : Int) ∧ x < T.z ∧ T.tk x = 1) ∧ (sm 109 A = -1 ∨ ∃ n : Nat, sm 109 A = (n : Int) ∧ n < N) ∧ (∃ n : Nat, sm 110 A = (n : Int) ∧ n < N)) ∨
   (sm 106 A = 1 ∧ (∃ n : Nat, sm 110 A = (n : Int) ∧ n < N) ∧ (∃ x : Nat, sm 111 A = (x : Int) ∧ x < T.z)) ∨
   (sm 106 A = 2 ∧ (∃ x : Nat, sm 107 A = (x : Int) ∧ x < T.z ∧ T.tk x = 1) ∧ (∃ x : Nat, sm 108 A = (x : Int) ∧ x < T.z ∧ T.tk x = 2)) ∨
   (sm 106 A = 3 ∧ (∃ x : Nat, sm 108 A = (x : Int) ∧ x < T.z ∧ T.tk x = 2))
noncomputable def at1 (x0 l2 l3 : Int) (q1 : Int × Sg) : Option Sg :=
  (if q1.1 = 0 then
    (gd (g_252 37 q1.2) (
    ((some (f_252 37 q1.2)).bind fun q2 =>
    (if q2.1 = 0 then
      (gd (g_252 38 q2.2) (
      ((some (f_252 38 q2.2)).bind fun q3 =>
      (if q3.1 = 0 then
        (gd (0 ≤ l2 ∧ l2 < 8200) (
        ((f_231 1 (ax_u2 q3.2 106 (l2.toNat) 0)).bind fun q4 =>
        (gd (0 ≤ l2 ∧ l2 < 8200) (
        (gd (g_252 15 (ax_u2 q4.2 107 (l2.toNat) q4.1)) (
        ((some (f_252 15 (ax_u2 q4.2 107 (l2.toNat) q4.1))).bind fun q5 =>
        (if q5.1 = 0 then
          j_259_257 x0 l2 l3 q5.2
        else
          ((f_257 x0 l3 q5.2).bind fun q9 =>
          (gd (0 ≤ l2 ∧ l2 < 8200) (
          ((f_231 16 (ax_u2 q9.2 109 (l2.toNat) q9.1)).bind fun q10 =>
          j_259_257 x0 l2 l3 q10.2)))))))))))))
      else
        (gd (0 ≤ l2 ∧ l2 < 8200) (
        ((f_231 2 (ax_u2 q3.2 106 (l2.toNat) 3)).bind fun q11 =>
        (gd (0 ≤ l2 ∧ l2 < 8200) (
        ((f_231 7 (ax_u2 q11.2 108 (l2.toNat) q11.1)).bind fun q12 =>
        some q12.2))))))))))
    else
      (gd (0 ≤ l2 ∧ l2 < 8200) (
      ((f_231 1 (ax_u2 q2.2 106 (l2.toNat) 2)).bind fun q13 =>
      (gd (0 ≤ l2 ∧ l2 < 8200) (
      ((f_231 2 (ax_u2 q13.2 107 (l2.toNat) q13.1)).bind fun q14 =>
      (gd (0 ≤ l2 ∧ l2 < 8200) (
      ((f_258 0 (ax_u2 (ax_u2 q14.2 108 (l2.toNat) q14.1) 84 46 l2)).bind fun q15 =>
      some q15)))))))))))))
  else
    (gd (0 ≤ l2 ∧ l2 < 8200) (
    (gd (0 ≤ l2 ∧ l2 < 8200) (
    ((f_257 x0 l3 (ax_u2 (ax_u2 q1.2 106 (l2.toNat) 1) 111 (l2.toNat) (q1.2 84 18))).bind fun q16 =>
    (gd (0 ≤ l2 ∧ l2 < 8200) (
    ((f_258 1 (ax_u2 q16.2 110 (l2.toNat) q16.1)).bind fun q17 =>
    some q17)))))))))
section ACT
variable {T : TT} {sc0 sm0 sc sm sc' sm' m : Sg} {a a' S P A N N' K K' C C' B B' D D' np w : Nat}
theorem m259 (hS : S < 4100) (h34 : m 84 34 = (A : Int)) (hA : A < 8200) (h43 : m 84 43 = (D : Int)) (hD : 1 ≤ D) (hD8 : D ≤ 80) : f_259 (S : Int) m = gd (g_252 35 (ACm m S A)) ((some (f_252 35 (ACm m S A))).bind fun q1 => at1 (S : Int) (A : Int) ((D - 1 : Nat) : Int) q1) := by
  have e : f_259 (S : Int) m = gd (0 ≤ m 84 34 ∧ m 84 34 < 8200) (gd (0 ≤ m 84 34 ∧ m 84 34 < 8200) (gd (0 ≤ m 84 34 ∧ m 84 34 < 8200) (gd (0 ≤ m 84 34 ∧ m 84 34 < 8200) (gd (0 ≤ m 84 34 ∧ m 84 34 < 8200) (gd (0 ≤ m 84 34 ∧ m 84 34 < 8200) (gd (0 ≤ (S : Int) ∧ (S : Int) < 4100) (gd (0 ≤ (S : Int) ∧ (S : Int) < 4100) (gd (g_252 35 (ax_u2 (ax_u2 (ax_u2 (ax_u2 (ax_u2 (ax_u2 (ax_u2 (ax_u2 m 112 ((m 84 34).toNat) (S : Int)) 113 ((m 84 34).toNat) (m 84 46)) 109 ((m 84 34).toNat) (-1)) 110 ((m 84 34).toNat) (-1)) 107 ((m 84 34).toNat) (-1)) 108 ((m 84 34).toNat) (-1)) 84 34 (ax_w32 ((m 84 34) + 1))) 102 (S : Int).toNat (ax_w32 ((m 102 (S : Int).toNat) + 1)))) ((some (f_252 35 (ax_u2 (ax_u2 (ax_u2 (ax_u2 (ax_u2 (ax_u2 (ax_u2 (ax_u2 m 112 ((m 84 34).toNat) (S : Int)) 113 ((m 84 34).toNat) (m 84 46)) 109 ((m 84 34).toNat) (-1)) 110 ((m 84 34).toNat) (-1)) 107 ((m 84 34).toNat) (-1)) 108 ((m 84 34).toNat) (-1)) 84 34 (ax_w32 ((m 84 34) + 1))) 102 (S : Int).toNat (ax_w32 ((m 102 (S : Int).toNat) + 1))))).bind fun q1 => at1 (S : Int) (m 84 34) (ax_w32 ((m 84 43) - 1)) q1))))))))) := by
    unfold f_259
    rfl
  rw [e, h34, h43, gd_pos (by omega), gd_pos (by omega), gd_pos (by omega), gd_pos (by omega), gd_pos (by omega), gd_pos (by omega), gd_pos (by omega), gd_pos (by omega), Int.toNat_natCast, Int.toNat_natCast, w32_nat (by omega), show ax_w32 ((D : Int) - 1) = ((D - 1 : Nat) : Int) from by rw [w32_id (by omega) (by omega)]; omega]
  rfl
/-- an action that opens no body is complete -/
theorem PIA.fin (hp : POS T) (h : PIA T sc0 sm0 sc sm a S P A N K C B D np w)
    (r1 : ∀ c, ¬ (c = 30 ∨ c = 39 ∨ 61 ≤ c ∧ c ≤ 65) → sc' c = sc c) (r2 : ∀ j, j ≠ 10 → j ≠ 11 → sc' 39 j = sc 39 j) (r3 : ∀ j, j < 4 ∨ 7 < j → sc' 30 j = sc 30 j) (r6 : sc' 61 4 = (C' : Int)) (r7 : ∀ c j, 62 ≤ c → c ≤ 65 → j < C → sc' c j = sc c j) (hu : CU T sc' a')
    (m1 : ∀ c, ¬ (c = 84 ∨ 106 ≤ c ∧ c ≤ 111) → sm' c = sm c) (m2 : ∀ c i, 106 ≤ c → c ≤ 111 → i < A → sm' c i = sm c i) (m3 : ∀ j, j ≠ 18 → sm' 84 j = sm 84 j) (m4 : sm' 84 18 = (a' : Int)) (hC : C ≤ C')
    (nC1 : ∀ c, C ≤ c → c < C' → CLc sc' sm' (S + 1) (A + 1) c) (nC2 : CN sc' → sm' 106 A = 0 → ∃ c, c < C' ∧ sc' 62 c = sm' 107 A ∧ sc' 63 c = sm' 109 A ∧ sc' 64 c = sm' 110 A ∧ sc' 65 c = 0) (nk : sm' 106 A ≠ 1) (ak : AKD T sm' N A) (nG : CN sc' ↔ CN sc ∧ GAC T sm' A) (ha : a ≤ a') (hA' : A < a') (pq : ∀ k, a ≤ k → k < a' → PRQ (T.tk (k - 1)) (T.tk k) ∧ ¬ (17 ≤ T.tk k ∧ T.tk k ≤ 20) ∧ T.tk k ≠ 123 ∧ T.tk k ≠ 125) (b1 : 4 * (C' : Int) ≤ T.fm a') (tl : T.tk (a' - 1) = 59) : PS1 T sc0 sm0 sc' sm' a' S P (A + 1) N K C' B D np w := by
  obtain ⟨h1, h2, h3, h4, h5⟩ := h
  obtain ⟨e1, e2, e3, e4, e5, e6, e7, e8, e9, e10, e11, e12, e13, e14, e15, e16, e17, e18, e19, e20, e21, e22, e23, e24, e25, e26, e27, e28, e29, e30, e31⟩ := id h1
  have hd := h3.2.2.2.2.2
  have d1 := h2.2.2.1
  have hr := h2.rep
  have hz := hu.2.2
  have dd : ∀ k, a ≤ k → k ≤ a' → dpt T k = dpt T a := fun k x y => by
    have := dpt_in (T := T) (a := a) (k - a) (fun j u v => (pq j u (by omega)).2.2)
    rw [show a + (k - a) = k by omega] at this
    exact this
  have r113 : sm' 113 A = sm 84 46 := by rw [m1 113 (by decide)]; exact h5
  have arl : ARL T sm' (S + 1) N A := by
    refine ⟨S, by rw [m1 112 (by decide)]; exact h4, by omega, by rw [m1 94 (by decide)]; exact h3.2.2.2.2.1, by rw [r113]; exact hr.1, by rw [r113]; exact hr.2.1, ?_, ak⟩
    rw [r113]
    intro y
    rw [m2 106 _ (by decide) (by decide) (by omega)]
    exact hr.2.2 y
  refine ⟨?_, ?_, ?_, Or.inr (Or.inl tl)⟩
  · refine PXB.ps (h1.gen (B' := B) (fun c x => r1 c (by omega)) r2 r3 (fun j _ => by rw [r1 31 (by decide)]) (by rw [r1 31 (by decide)]; exact e14) r6 r7 (fun i hi => by rw [r1 59 (by decide), m1 102 (by decide)]; exact e18 i hi) hu (fun c x => m1 c (by omega)) (fun c i x y z => ?_) (fun j x _ _ _ => m3 j x) m4 (by rw [m3 34 (by decide)]; exact e12) (by omega) hC (fun i x y => by rw [show i = A by omega]; exact arl) nC1 (fun cn i x y => by rw [show i = A by omega]; exact nC2 cn) (fun i x y z => by rw [show i = A by omega] at z; exact absurd z nk) ?_ ha (fun k x y => ?_) b1 (by omega) (by omega))
    · by_cases c1 : c ≤ 111
      · exact m2 c i x c1 z
      · rw [m1 c (by omega)]
    · rw [nG]
      exact ⟨fun y => ⟨y.1, fun i x z => by rw [show i = A by omega]; exact y.2⟩, fun y => ⟨y.1, y.2 A (Nat.le_refl _) (by omega)⟩⟩
    · have q := pq k x y
      exact ⟨q.1, STT.deep q.2.1 (by rw [dd k x (by omega)]; omega)⟩
  · exact h2.cg (by omega) (by rw [r1 70 (by decide)]) (r1 71 (by decide)) (r1 72 (by decide)) (by rw [r1 31 (by decide)]) (r1 38 (by decide)) (r1 37 (by decide)) (m3 43 (by decide)) (m3 46 (by decide)) (m1 114 (by decide)) (m1 115 (by decide)) (by rw [m1 98 (by decide)]) (by rw [m1 99 (by decide)]) (m1 104 (by decide)) (m1 105 (by decide)) (fun i hi => ⟨m2 107 i (by decide) (by decide) hi, by rw [m1 113 (by decide)]⟩) (fun i hi => m2 106 i (by decide) (by decide) hi) (fun y => (nG.mp y).1)
  · exact h3.cg hp (r1 60 (by decide)) (m1 103 (by decide)) (m1 94 (by decide)) (m3 19 (by decide)) ha hz (by rw [dd a' ha (Nat.le_refl _)]; exact hd)
end ACT
