/-! INSIDE an instruction: between two actions; inside one. -/
def REST (T : TT) (sc sm : Sg) (a S D : Nat) : Prop := sm 84 19 = (S : Int) ∧ 7 * (S : Int) + 6 ≤ T.fm a ∧ (∀ i, i < S → sc 60 i + sm 103 i = sc 60 (i + 1)) ∧ sm 103 S = sc 60 S ∧ sm 94 S = 3 ∧ dpt T a = (D : Int)
def PS1 (T : TT) (sc0 sm0 sc sm : Sg) (a S P A N K C B D np w : Nat) : Prop := PSB T sc0 sm0 sc sm a (S + 1) P A N K C B w ∧ BST T sc sm S A B D np ∧ REST T sc sm a S D ∧ (T.tk (a - 1) = 123 ∨ T.tk (a - 1) = 59 ∨ T.tk (a - 1) = 125)
def PIA (T : TT) (sc0 sm0 sc sm : Sg) (a S P A N K C B D np w : Nat) : Prop := PXB T sc0 sm0 sc sm a (S + 1) P A (A + 1) N K C B w ∧ BST T sc sm S A B D np ∧ REST T sc sm a S D ∧ sm 112 A = (S : Int) ∧ sm 113 A = sm 84 46
/-- an action's row is begun -/
def ACm (m : Sg) (S A : Nat) : Sg := ax_u2 (ax_u2 (ax_u2 (ax_u2 (ax_u2 (ax_u2 (ax_u2 (ax_u2 m 112 A (S : Int)) 113 A (m 84 46)) 109 A (-1)) 110 A (-1)) 107 A (-1)) 108 A (-1)) 84 34 ((A + 1 : Nat) : Int)) 102 S (ax_w32 (m 102 S + 1))
def ACc (s : Sg) (S : Nat) : Sg := ax_u2 s 59 S (ax_w32 (s 59 S + 1))
section PIS
variable {T : TT} {sc0 sm0 sc sm sc' sm' m : Sg} {a a' S P A N N' K K' C C' B B' D D' np w c i : Nat} {v : Int}
theorem REST.cg (hp : POS T) (h : REST T sc sm a S D) (r : sc' 60 = sc 60) (m1 : sm' 103 = sm 103) (m2 : sm' 94 = sm 94) (m3 : sm' 84 19 = sm 84 19) (ha : a ≤ a') (hz : a' ≤ T.z) (hd : dpt T a' = (D' : Int)) : REST T sc' sm' a' S D' := by
  obtain ⟨h1, h2, h3, h4, h5, h6⟩ := h
  have pz := hp.add (k := a) (a' - a) (by omega)
  rw [show a + (a' - a) = a' by omega] at pz
  unfold REST
  rw [r, m1, m2, m3]
  exact ⟨h1, by omega, h3, h4, h5, hd⟩
theorem STT.deep {k : Nat} (h : ¬ (17 ≤ T.tk k ∧ T.tk k ≤ 20)) (h1 : dpt T k ≠ 0) : STT T k := ⟨fun y => absurd y h, fun y => absurd y.2.2 h1⟩
theorem ACm_row (h : ¬ (c = 84 ∨ c = 102 ∨ 107 ≤ c ∧ c ≤ 110 ∨ c = 112 ∨ c = 113)) : ACm m S A c = m c := by
  unfold ACm
  rw [u2_row _ _ _ (by omega), u2_row _ _ _ (by omega), u2_row _ _ _ (by omega), u2_row _ _ _ (by omega), u2_row _ _ _ (by omega), u2_row _ _ _ (by omega), u2_row _ _ _ (by omega), u2_row _ _ _ (by omega)]
theorem ACm_84 (h : i ≠ 34) : ACm m S A 84 i = m 84 i := by
  unfold ACm
  rw [u2_row _ _ _ (by decide), u2_col _ _ _ h, u2_row _ _ _ (by decide), u2_row _ _ _ (by decide), u2_row _ _ _ (by decide), u2_row _ _ _ (by decide), u2_row _ _ _ (by decide), u2_row _ _ _ (by decide)]
theorem ACm_col (h : c ≠ 84) (h2 : c ≠ 102) (hi : i ≠ A) : ACm m S A c i = m c i := by
  unfold ACm
  have u : ∀ (s : Sg) (d : Nat) (v : Int), (ax_u2 s d A v) c i = s c i := fun s d v => by simp [ax_u2, hi]
  rw [u2_row _ _ _ h2, u2_row _ _ _ h, u, u, u, u, u, u]
theorem ACm_A : ACm m S A 84 34 = ((A + 1 : Nat) : Int) ∧ ACm m S A 112 A = (S : Int) ∧ ACm m S A 113 A = m 84 46 ∧ ACm m S A 109 A = -1 ∧ ACm m S A 110 A = -1 ∧ ACm m S A 107 A = -1 ∧ ACm m S A 108 A = -1 ∧ ACm m S A 102 S = ax_w32 (m 102 S + 1) ∧ (∀ i, i ≠ S → ACm m S A 102 i = m 102 i) := by
  unfold ACm
  refine ⟨?_, ?_, ?_, ?_, ?_, ?_, ?_, u2_same _ _ _ _, fun i hi => ?_⟩
  · rw [u2_row _ _ _ (by decide)]; exact u2_same _ _ _ _
  · simp [ax_u2]
  · simp [ax_u2]
  · simp [ax_u2]
  · simp [ax_u2]
  · simp [ax_u2]
  · simp [ax_u2]
  · rw [u2_col _ _ _ hi, u2_row _ _ _ (by decide), u2_row _ _ _ (by decide), u2_row _ _ _ (by decide), u2_row _ _ _ (by decide), u2_row _ _ _ (by decide), u2_row _ _ _ (by decide), u2_row _ _ _ (by decide)]
theorem ACm_sf : SFm m (ACm m S A) := ⟨fun c x => ACm_row (by omega), fun j x => ACm_84 (by omega)⟩
theorem ACc_row (h : c ≠ 59) : ACc sc S c = sc c := by unfold ACc; exact u2_row _ _ _ h
theorem ACc_sf : SFc sc (ACc sc S) := ⟨fun c x => ACc_row (by omega), fun j _ _ => by rw [ACc_row (by decide)], fun j _ => by rw [ACc_row (by decide)], fun j _ => by rw [ACc_row (by decide)], W8.same (ACc_row (by decide))⟩
theorem PS1.begin (h : PS1 T sc0 sm0 sc sm a S P A N K C B D np w) : PIA T sc0 sm0 (ACc sc S) (ACm sm S A) a S P A N K C B D np w := by
  obtain ⟨h1, h2, ⟨q1, q2, q3, q4, q5, q6⟩, h4⟩ := h
  obtain ⟨e1, e2, e3, e4, e5, e6, e7, e8, e9, e10, e11, e12, e13, e14, e15, e16, e17, e18, e19, e20, e21, e22, e23, e24, e25, e26, e27, e28, e29, e30, e31⟩ := id h1
  obtain ⟨s34, s112, s113, s109, s110, s107, s108, s102, s102'⟩ := ACm_A (m := sm) (S := S) (A := A)
  have cn : CN (ACc sc S) ↔ CN sc := by unfold CN; rw [ACc_row (by decide)]
  refine ⟨?_, ?_, ?_, s112, by rw [s113, ACm_84 (by decide)]⟩
  · refine h1.px.gen (fun c x => ACc_row (by omega)) (fun j _ _ => by rw [ACc_row (by decide)]) (fun j _ => by rw [ACc_row (by decide)]) (fun j _ => by rw [ACc_row (by decide)]) (by rw [ACc_row (by decide)]; exact e14) (by rw [ACc_row (by decide)]; exact e13) (fun c j x y _ => by rw [ACc_row (by omega)]) (fun i hi => ?_) ⟨by rw [ACc_row (by decide)]; exact e3.1, by rw [ACc_row (by decide)]; exact e3.2.1, e3.2.2⟩ (fun c x => ACm_row (by omega)) (fun c i x y z => ACm_col (by omega) (by omega) (by omega)) (fun j _ x _ _ => ACm_84 x) (by rw [ACm_84 (by decide)]; exact e4) s34 (Nat.le_refl _) (Nat.le_refl _) (fun _ y z => absurd z (by omega)) (fun _ y z => absurd z (by omega)) (fun _ _ y z => absurd z (by omega)) (fun _ y z => absurd z (by omega)) ⟨fun y => ⟨cn.mp y, fun _ y z => absurd z (by omega)⟩, fun y => cn.mpr y.1⟩ (Nat.le_refl _) (fun k x y => absurd y (by omega)) e21 e22 e24
    by_cases e : i = S
    · subst e
      rw [s102, ← e18 i hi]
      exact u2_same _ _ _ _
    · rw [s102' i e, ← e18 i hi]
      exact u2_col _ _ _ e
  · exact h2.cg (Nat.le_refl _) (by rw [ACc_row (by decide)]) (ACc_row (by decide)) (ACc_row (by decide)) (by rw [ACc_row (by decide)]) (ACc_row (by decide)) (ACc_row (by decide)) (ACm_84 (by decide)) (ACm_84 (by decide)) (ACm_row (by decide)) (ACm_row (by decide)) (by rw [ACm_row (by decide)]) (by rw [ACm_row (by decide)]) (ACm_row (by decide)) (ACm_row (by decide)) (fun i hi => ⟨ACm_col (by decide) (by decide) (by omega), ACm_col (by decide) (by decide) (by omega)⟩) (fun i hi => ACm_col (by decide) (by decide) (by omega)) cn.mp
  · unfold REST
    rw [ACc_row (by decide), ACm_row (show ¬ (103 = 84 ∨ 103 = 102 ∨ 107 ≤ 103 ∧ 103 ≤ 110 ∨ 103 = 112 ∨ 103 = 113) by decide), ACm_row (show ¬ (94 = 84 ∨ 94 = 102 ∨ 107 ≤ 94 ∧ 94 ≤ 110 ∨ 94 = 112 ∨ 94 = 113) by decide), ACm_84 (by decide)]
    exact ⟨q1, q2, q3, q4, q5, q6⟩
/-- a lexeme of an action is passed -/
theorem PIA.tok (hp : POS T) (h : PIA T sc0 sm0 sc sm a S P A N K C B D np w) (hz : a < T.z) (pq : PRQ (T.tk (a - 1)) (T.tk a)) (t1 : ¬ (17 ≤ T.tk a ∧ T.tk a ≤ 20)) (t2 : T.tk a ≠ 123) (t3 : T.tk a ≠ 125) : PIA T sc0 sm0 (cur T sc (a + 1)) (adv sm (a + 1)) (a + 1) S P A N K C B D np w := by
  obtain ⟨h1, h2, h3, h4, h5⟩ := h
  have hd := h3.2.2.2.2.2
  have d1 := h2.2.2.1
  refine ⟨h1.tok hp hz pq (STT.deep t1 (by omega)), ?_, ?_, by rw [adv_row (by decide)]; exact h4, by rw [adv_row (by decide), adv_col (by decide)]; exact h5⟩
  · refine h2.cg (Nat.le_refl _) (by rw [cur_row (by decide)]) (cur_row (by decide)) (cur_row (by decide)) (by rw [cur_row (by decide)]) (cur_row (by decide)) (cur_row (by decide)) (adv_col (by decide)) (adv_col (by decide)) (adv_row (by decide)) (adv_row (by decide)) (by rw [adv_row (by decide)]) (by rw [adv_row (by decide)]) (adv_row (by decide)) (adv_row (by decide)) (fun i _ => ⟨by rw [adv_row (by decide)], by rw [adv_row (by decide)]⟩) (fun i _ => by rw [adv_row (by decide)]) (fun y => ?_)
    unfold CN at *
    rw [cur_row (by decide)] at y
    exact y
  · exact h3.cg hp (cur_row (by decide)) (adv_row (by decide)) (adv_row (by decide)) (adv_col (by decide)) (by omega) (by omega) (by rw [dpt_n t2 t3]; exact hd)
theorem PIA.row (hp : POS T) (h : PIA T sc0 sm0 sc sm a S P A N K C B D np w) (hc : 106 ≤ c ∧ c ≤ 111) : PIA T sc0 sm0 sc (ax_u2 sm c A v) a S P A N K C B D np w := by
  obtain ⟨h1, h2, h3, h4, h5⟩ := h
  have hz := h1.2.2.1.2.2
  have u : ∀ b j, j < A → (ax_u2 sm c A v) b j = sm b j := fun b j x => by
    have : j ≠ A := by omega
    simp [ax_u2, this]
  have r : ∀ b, b < 106 ∨ 111 < b → (ax_u2 sm c A v) b = sm b := fun b x => u2_row _ _ _ (by omega)
  refine ⟨h1.row (by omega) (Nat.le_refl _), ?_, ?_, by rw [r 112 (by decide)]; exact h4, by rw [r 113 (by decide), r 84 (by decide)]; exact h5⟩
  · exact h2.cg (Nat.le_refl _) rfl rfl rfl rfl rfl rfl (by rw [r 84 (by decide)]) (by rw [r 84 (by decide)]) (r 114 (by decide)) (r 115 (by decide)) (by rw [r 98 (by decide)]) (by rw [r 99 (by decide)]) (r 104 (by decide)) (r 105 (by decide)) (fun i hi => ⟨u 107 i hi, u 113 i hi⟩) (fun i hi => u 106 i hi) (fun y => y)
  · exact h3.cg hp rfl (r 103 (by decide)) (r 94 (by decide)) (by rw [r 84 (by decide)]) (Nat.le_refl _) hz h3.2.2.2.2.2
theorem dpt_in : ∀ (j : Nat), (∀ k, a ≤ k → k < a + j → T.tk k ≠ 123 ∧ T.tk k ≠ 125) → dpt T (a + j) = dpt T a := by
  intro j
  induction j with
  | zero => intro _; rfl
  | succ j ih =>
    intro h
    have := h (a + j) (by omega) (by omega)
    rw [show a + (j + 1) = a + j + 1 by omega, dpt_n this.1 this.2]
    exact ih (fun k x y => h k x (by omega))
/-- an expression of an action has been read -/
theorem PIA.post (hT : TWF T) (hp : POS T) (h : PIA T sc0 sm0 sc sm a S P A N K C B D np w) (ht : T.tk (a - 1) ∈ opA) (tp : TPOST T sc sm (S : Int) a N K sc' sm' a' N' K') : PIA T sc0 sm0 sc' sm' a' S P A N' K' C B D np w := by
  obtain ⟨h1, h2, h3, h4, h5⟩ := h
  have hr := h2.rep
  have x1 := h1.post hT hp (s := S) (by omega) ⟨rfl, h3.2.2.2.2.1⟩ hr (fun cn => (h2.2.2.2.2.2.2.2.2.2.2.2 cn).1) ht tp
  obtain ⟨p1, p2, p3, p4, p5, p6, p7, p8, p9, p10, p11, p12, p13, p14, p15, p16, p17, p18, p19, p20, p21⟩ := tp
  have px := p14.2.2.2.2.2.2.2.2.1
  have hz := p3.2.2
  refine ⟨x1, ?_, ?_, by rw [p11.1 112 (by decide)]; exact h4, by rw [p11.1 113 (by decide), p11.2 46 (by decide)]; exact h5⟩
  · exact h2.cg (Nat.le_refl _) (by rw [p10.1 70 (by decide)]) (p10.1 71 (by decide)) (p10.1 72 (by decide)) (by rw [p10.1 31 (by decide)]) (p10.1 38 (by decide)) (p10.1 37 (by decide)) (p11.2 43 (by decide)) (p11.2 46 (by decide)) (p11.1 114 (by decide)) (p11.1 115 (by decide)) (by rw [p11.1 98 (by decide)]) (by rw [p11.1 99 (by decide)]) (p11.1 104 (by decide)) (p11.1 105 (by decide)) (fun i _ => ⟨by rw [p11.1 107 (by decide)], by rw [p11.1 113 (by decide)]⟩) (fun i _ => by rw [p11.1 106 (by decide)]) (fun y => (p12.mp y).1)
  · refine h3.cg hp (p10.1 60 (by decide)) (p11.1 103 (by decide)) (p11.1 94 (by decide)) (p11.2 19 (by decide)) (by omega) hz ?_
    have := dpt_in (T := T) (a := a) (a' - a) (fun k x y => by
      have q := (px k x (by omega)).q
      exact ⟨q.2.1, q.2.2.1⟩)
    rw [show a + (a' - a) = a' by omega] at this
    rw [this]
    exact h3.2.2.2.2.2
end PIS
