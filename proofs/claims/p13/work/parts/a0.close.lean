/-! A BODY is closed. -/
section CLO
variable {T : TT} {sc0 sm0 sc sm sc' sm' s2 m : Sg} {a b a1 a' S P A N N' K K' C C' B B' D D' M np w F : Nat}
/-- the class's side: what '}' leaves -/
def CLd (T : TT) (sc s2 : Sg) (a B D M : Nat) : Prop := s2 31 8 = (M : Int) ∧ (∀ j, j ≠ 8 → s2 31 j = sc 31 j) ∧ (∀ c, ¬ (c = 31 ∨ c = 37 ∨ c = 39 ∨ c = 70) → s2 c = sc c) ∧ s2 70 9 = ((D - 1 : Nat) : Int) ∧ (∀ j, j ≠ 10 → j ≠ 11 → s2 39 j = sc 39 j) ∧ CU T s2 (a + 1) ∧ (∀ i, M ≤ i → i < B → 0 ≤ sc 38 i → sc 38 i < 4112 → s2 37 (sc 38 i).toNat = 0) ∧ (∀ id : Nat, (∀ i, M ≤ i → i < B → sc 38 i ≠ (id : Int)) → s2 37 id = sc 37 id)
theorem CLd.sf (h : CLd T sc s2 a B D M) (hM : M ≤ 4112) : SFc sc s2 := by
  obtain ⟨h1, h2, h3, h4, h5, h6, h7, h8⟩ := h
  exact ⟨fun c x => h3 c (by omega), h5, fun j _ => by rw [h3 30 (by decide)], h2, W8.of h1 hM⟩
theorem c146 (hT : TWF T) (hc : CC T sc) (hu : CU T sc a) (t : T.tk a = 125) (hB : sc 31 8 = (B : Int)) (hB8 : B ≤ 4112) (hD : sc 70 9 = (D : Int)) (d1 : 1 ≤ D) (d8 : D ≤ 80) (hM : sc 72 (D - 1) = (M : Int)) (hMB : M ≤ B) :
    ∃ s2 : Sg, CLd T sc s2 a B D M ∧ f_146 sc = (if ¬ (s2 71 (D - 1)) = 21 then some (.inl s2) else if ¬ T.tk (a + 1) = 22 then some (.inl s2) else gd (g_94 s2) ((some (f_94 s2)).bind fun q3 => (xb (f_154 22 (M : Int) q3) fun q4 => some (.inl q4)))) := by
  have z0 := hT.lt hu.2.2 (by rw [t]; decide)
  obtain ⟨q1, hq1⟩ : ∃ s : Sg, s = cur T sc (a + 1) := ⟨_, rfl⟩
  have r1 : ∀ c, c ≠ 39 → q1 c = sc c := fun c x => by rw [hq1, cur_row x]
  have w1 : ax_w32 (q1 70 9 - 1) = ((D - 1 : Nat) : Int) := by rw [r1 70 (by decide), hD, w32_id (by omega) (by omega)]; omega
  obtain ⟨q0, hq0⟩ : ∃ s : Sg, s = ax_u2 q1 70 9 ((D - 1 : Nat) : Int) := ⟨_, rfl⟩
  have r0 : ∀ c, c ≠ 39 → c ≠ 70 → q0 c = sc c := fun c x y => by rw [hq0, u2_row _ _ _ y, r1 c x]
  obtain ⟨s2, k1, k2, k3, k4, k5, k6⟩ := c102 (s := q0) (M := M) (B := B) hMB hB8 (by rw [r0 31 (by decide) (by decide)]; exact hB)
  rw [r0 38 (by decide) (by decide)] at k5 k6
  have c70 : s2 70 9 = ((D - 1 : Nat) : Int) := by rw [k4 70 (by decide) (by decide), hq0]; exact u2_same _ _ _ _
  have cu : CU T (cur T sc (a + 1)) (a + 1) := cur_cu (by omega)
  have r39 : s2 39 = (cur T sc (a + 1)) 39 := by rw [k4 39 (by decide) (by decide), hq0, u2_row _ _ _ (by decide), hq1]
  have cu2 : CU T s2 (a + 1) := ⟨by rw [r39]; exact cu.1, by rw [r39]; exact cu.2.1, cu.2.2⟩
  refine ⟨s2, ⟨k2, fun j x => by rw [k3 j x, r0 31 (by decide) (by decide)], fun c x => by rw [k4 c (by omega) (by omega), r0 c (by omega) (by omega)], c70, fun j x y => by rw [r39, cur_col x y], cu2, k5, fun id x => by rw [k6 id x, r0 37 (by decide) (by decide)]⟩, ?_⟩
  unfold f_146
  rw [nxt hT hc hu (by rw [t]; decide), ← hq1, w1, ← hq0, Int.toNat_natCast, r1 72 (by decide), hM, k1, Option.bind_some]
  rw [if_neg (by rw [r1 70 (by decide), hD]; omega), if_pos (by rw [r1 70 (by decide), hD]; omega), gd_pos (by omega), c70, gd_pos (by omega), Int.toNat_natCast, cu2.2.1]
/-- an else's body is opened -/
theorem PS1.els (hT : TWF T) (hp : POS T) (h : PS1 T sc0 sm0 sc sm b S P A N K C B D np w) (t : T.tk b = 22) (t1 : T.tk (b - 1) = 125) (t2 : T.tk (b + 1) = 123) (hz : b + 1 < T.z) (hD : D < 80) : PS1 T sc0 sm0 (OBc T (cur T sc (b + 1)) D 22 (B : Int) (b + 1)) (OBm (adv sm (b + 1)) D 0 (b + 1)) (b + 1 + 1) S P A N K C B (D + 1) np w := by
  obtain ⟨h1, h2, h3, h4⟩ := h
  obtain ⟨e1, e2, e3, e4, e5, e6, e7, e8, e9, e10, e11, e12, e13, e14, e15, e16, e17, e18, e19, e20, e21, e22, e23, e24, e25, e26, e27, e28, e29, e30, e31⟩ := id h1
  obtain ⟨o1, o2, o3, o4, o5, o6, o7⟩ := OBc_at (T := T) (s := cur T sc (b + 1)) (D := D) (wd := 22) (mk := (B : Int)) (b := b + 1) (by omega)
  obtain ⟨l1, l2, l3, l4, l5, l6⟩ := OBm_at (m := adv sm (b + 1)) (D := D) (x := 0) (b := b + 1)
  obtain ⟨sF, hsF⟩ : ∃ s : Sg, s = OBc T (cur T sc (b + 1)) D 22 (B : Int) (b + 1) := ⟨_, rfl⟩
  obtain ⟨mF, hmF⟩ : ∃ s : Sg, s = OBm (adv sm (b + 1)) D 0 (b + 1) := ⟨_, rfl⟩
  have rc : ∀ c, ¬ (c = 39 ∨ 70 ≤ c ∧ c ≤ 72) → sF c = sc c := fun c y => by rw [hsF, OBc_row (by omega), cur_row (by omega)]
  have rm : ∀ c, ¬ (c = 84 ∨ c = 114 ∨ c = 115) → mF c = sm c := fun c y => by rw [hmF, OBm_row (by omega), adv_row (by omega)]
  have r8 : ∀ j, j ≠ 18 → j ≠ 43 → mF 84 j = sm 84 j := fun j y z => by rw [hmF, OBm_84 y z, adv_col y]
  rw [← hsF] at o1 o2 o3 o4 o5 o6 o7
  rw [← hmF] at l1 l2 l3 l4 l5 l6
  rw [← hsF, ← hmF]
  have hd := h3.2.2.2.2.2
  have d1 := h2.2.2.1
  have cn : CN sF ↔ CN sc := by unfold CN; rw [rc 30 (by decide)]
  have pz := hp.add (k := b) 2 (by omega)
  rw [show b + 2 = b + 1 + 1 by omega] at pz
  have hd1 : dpt T (b + 1) = (D : Int) := by rw [dpt_n (by rw [t]; decide) (by rw [t]; decide)]; exact hd
  refine ⟨?_, ?_, ?_, Or.inl (by rw [show b + 1 + 1 - 1 = b + 1 by omega]; exact t2)⟩
  · refine PXB.ps (h1.px.gen (B' := B) (fun c y => rc c (by omega)) (fun j y z => by rw [o2 j y z, cur_col y z]) (fun j _ => by rw [rc 30 (by decide)]) (fun j _ => by rw [rc 31 (by decide)]) (by rw [rc 31 (by decide)]; exact e14) (by rw [rc 61 (by decide)]; exact e13) (fun c j y z u => by rw [rc c (by omega)]) (fun i hi => by rw [rc 59 (by decide), rm 102 (by decide)]; exact e18 i hi) o1 (fun c y => rm c (by omega)) (fun c i y z _ => by rw [rm c (by omega)]) (fun j y _ z _ => r8 j y z) l1 (by rw [r8 34 (by decide) (by decide)]; exact e12) (Nat.le_refl _) (Nat.le_refl _) (fun _ y z => absurd z (by omega)) (fun _ y z => absurd z (by omega)) (fun _ _ y z => absurd z (by omega)) (fun _ y z => absurd z (by omega)) ⟨fun y => ⟨cn.mp y, fun _ y z => absurd z (by omega)⟩, fun y => cn.mpr y.1⟩ (by omega) (fun k y z => ?_) (by omega) (by omega) (by omega))
    by_cases c1 : k = b
    · rw [c1]
      exact ⟨Or.inr (Or.inr (Or.inr (Or.inr (Or.inr (Or.inr ⟨t1, t⟩))))), STT.deep (by rw [t]; decide) (by omega)⟩
    · rw [show k = b + 1 by omega, show b + 1 - 1 = b by omega, t, t2]
      exact ⟨Or.inr (Or.inr (Or.inl (by decide))), STT.deep (by rw [t2]; decide) (by omega)⟩
  · exact h2.push (wd := 22) (x := 0) (Nat.le_refl _) hD o3 (fun i hi => by rw [o6 i hi, cur_row (by decide)]) o4 (fun i hi => by rw [o7 i hi, cur_row (by decide)]) o5 (by rw [rc 31 (by decide)]) (rc 38 (by decide)) (rc 37 (by decide)) l2 (r8 46 (by decide) (by decide)) (fun i hi => by rw [l5 i hi, adv_row (by decide)]) l3 (fun i hi => by rw [l6 i hi, adv_row (by decide)]) (by rw [l4, adv_col (by decide)]) (by rw [rm 98 (by decide)]) (by rw [rm 99 (by decide)]) (rm 104 (by decide)) (rm 105 (by decide)) (fun i _ => ⟨by rw [rm 107 (by decide)], by rw [rm 113 (by decide)]⟩) (fun i _ => by rw [rm 106 (by decide)]) (Or.inl rfl) (by decide) cn.mp
  · refine h3.cg hp (rc 60 (by decide)) (rm 103 (by decide)) (rm 94 (by decide)) (r8 19 (by decide) (by decide)) (by omega) (by omega) ?_
    have e2 : dpt T (b + 1 + 1) = dpt T (b + 1) + (if T.tk (b + 1) = 123 then 1 else if T.tk (b + 1) = 125 then -1 else 0) := rfl
    rw [e2, if_pos t2, hd1]
    omega
/-- what '}' leaves of all but the bodies -/
theorem PS1.cls (hT : TWF T) (hp : POS T) (h : PS1 T sc0 sm0 sc sm a S P A N K C B D np w) (t : T.tk a = 125) (hMB : M ≤ B) (k : CLd T sc s2 a B D M) {x y : Int} : PSB T sc0 sm0 s2 (ax_u2 (ax_u2 (adv sm (a + 1)) 84 43 x) 84 46 y) (a + 1) (S + 1) P A N K C M w := by
  obtain ⟨h1, h2, h3, h4⟩ := h
  obtain ⟨e1, e2, e3, e4, e5, e6, e7, e8, e9, e10, e11, e12, e13, e14, e15, e16, e17, e18, e19, e20, e21, e22, e23, e24, e25, e26, e27, e28, e29, e30, e31⟩ := id h1
  obtain ⟨k1, k2, k3, k4, k5, k6, k7, k8⟩ := k
  have hz := hT.lt e3.2.2 (by rw [t]; decide)
  have pz := hp.1 a hz
  have hd := h3.2.2.2.2.2
  have d1 := h2.2.2.1
  have cn : CN s2 ↔ CN sc := by unfold CN; rw [k3 30 (by decide)]
  have rm : ∀ c, c ≠ 84 → (ax_u2 (ax_u2 (adv sm (a + 1)) 84 43 x) 84 46 y) c = sm c := fun c u => by rw [u2_row _ _ _ u, u2_row _ _ _ u, adv_row u]
  have r8 : ∀ j, j ≠ 18 → j ≠ 43 → j ≠ 46 → (ax_u2 (ax_u2 (adv sm (a + 1)) 84 43 x) 84 46 y) 84 j = sm 84 j := fun j u v z => by rw [u2_col _ _ _ z, u2_col _ _ _ v, adv_col u]
  refine PXB.ps (h1.px.gen (B' := M) (fun c y => k3 c (by omega)) k5 (fun j _ => by rw [k3 30 (by decide)]) k2 k1 (by rw [k3 61 (by decide)]; exact e13) (fun c j y z u => by rw [k3 c (by omega)]) (fun i hi => by rw [k3 59 (by decide), rm 102 (by decide)]; exact e18 i hi) k6 (fun c y => rm c (by omega)) (fun c i y z _ => by rw [rm c (by omega)]) (fun j y _ z u => r8 j y z u) (by rw [u2_col _ _ _ (by decide), u2_col _ _ _ (by decide)]; exact adv_at) (by rw [r8 34 (by decide) (by decide) (by decide)]; exact e12) (Nat.le_refl _) (Nat.le_refl _) (fun _ y z => absurd z (by omega)) (fun _ y z => absurd z (by omega)) (fun _ _ y z => absurd z (by omega)) (fun _ y z => absurd z (by omega)) ⟨fun y => ⟨cn.mp y, fun _ y z => absurd z (by omega)⟩, fun y => cn.mpr y.1⟩ (by omega) (fun k y z => ?_) (by omega) (by omega) (by omega))
  rw [show k = a by omega]
  exact ⟨Or.inr (Or.inr (Or.inr (Or.inr (Or.inr (Or.inl ⟨by rcases h4 with u | u | u <;> simp [u], by simp [t]⟩))))), STT.deep (by rw [t]; decide) (by omega)⟩
theorem dpt_c (t : T.tk a = 125) (h : dpt T a = (D : Int)) (hD : 1 ≤ D) : dpt T (a + 1) = ((D - 1 : Nat) : Int) := by
  have e2 : dpt T (a + 1) = dpt T a + (if T.tk a = 123 then 1 else if T.tk a = 125 then -1 else 0) := rfl
  rw [e2, if_neg (by rw [t]; decide), if_pos t, h]
  omega
theorem PS1.pop (hT : TWF T) (hp : POS T) (h : PS1 T sc0 sm0 sc sm a S P A N K C B D np w) (t : T.tk a = 125) (hD : 2 ≤ D) (hM : sc 72 (D - 1) = (M : Int)) (k : CLd T sc s2 a B D M) : PS1 T sc0 sm0 s2 (ax_u2 (ax_u2 (adv sm (a + 1)) 84 43 ((D - 1 : Nat) : Int)) 84 46 (sm 115 (D - 2))) (a + 1) S P A N K C M (D - 1) np w := by
  have hMB := (h.2.1.2.2.2.2.2.1 (D - 1) (by omega)).2.1
  have x1 := h.cls hT hp t (by omega) k (x := ((D - 1 : Nat) : Int)) (y := sm 115 (D - 2))
  have cu := k.2.2.2.2.2.1
  obtain ⟨h1, h2, h3, h4⟩ := h
  have rm : ∀ c, c ≠ 84 → (ax_u2 (ax_u2 (adv sm (a + 1)) 84 43 ((D - 1 : Nat) : Int)) 84 46 (sm 115 (D - 2))) c = sm c := fun c u => by rw [u2_row _ _ _ u, u2_row _ _ _ u, adv_row u]
  have r8 : ∀ j, j ≠ 18 → j ≠ 43 → j ≠ 46 → (ax_u2 (ax_u2 (adv sm (a + 1)) 84 43 ((D - 1 : Nat) : Int)) 84 46 (sm 115 (D - 2))) 84 j = sm 84 j := fun j u v z => by rw [u2_col _ _ _ z, u2_col _ _ _ v, adv_col u]
  obtain ⟨k1, k2, k3, k4, k5, k6, k7, k8⟩ := k
  refine ⟨x1, ?_, ?_, Or.inr (Or.inr (by rw [show a + 1 - 1 = a by omega]; exact t))⟩
  · refine h2.pop hT hD hM k4 (k3 71 (by decide)) (k3 72 (by decide)) k1 (k3 38 (by decide)) k7 k8 (by rw [u2_col _ _ _ (by decide)]; exact u2_same _ _ _ _) (u2_same _ _ _ _) rm (fun y => ?_)
    unfold CN at *
    rw [k3 30 (by decide)] at y
    exact y
  · exact h3.cg hp (k3 60 (by decide)) (rm 103 (by decide)) (rm 94 (by decide)) (r8 19 (by decide) (by decide) (by decide)) (by omega) cu.2.2 (dpt_c t h3.2.2.2.2.2 (by omega))
end CLO
