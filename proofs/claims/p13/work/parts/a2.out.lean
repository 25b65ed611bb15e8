/-! AN INSTRUCTION is over; '}' on both sides. -/
section OUTI
variable {T : TT} {sc0 sm0 sc sm sc' sm' s2 m : Sg} {a b a1 a' S P A Q N N' K K' C C' B B' D D' M np w F : Nat}
/-- the reference counts a statement -/
theorem PXB.cnt (h : PXB T sc0 sm0 sc sm a S P A Q N K C B w) {i : Nat} {x y : Int} : PXB T sc0 sm0 sc (ax_u2 (ax_u2 sm 103 i x) 84 19 y) a S P A Q N K C B w := by
  obtain ⟨e1, e2, e3, e4, e5, e6, e7, e8, e9, e10, e11, e12, e13, e14, e15, e16, e17, e18, e19, e20, e21, e22, e23, e24, e25, e26, e27, e28, e29, e30, e31⟩ := h
  have m1 : ∀ c, c ≠ 84 → c ≠ 103 → (ax_u2 (ax_u2 sm 103 i x) 84 19 y) c = sm c := fun c u v => by rw [u2_row _ _ _ u, u2_row _ _ _ v]
  have m3 : ∀ j, j ≠ 19 → (ax_u2 (ax_u2 sm 103 i x) 84 19 y) 84 j = sm 84 j := fun j u => by rw [u2_col _ _ _ u, u2_row _ _ _ (by decide)]
  obtain ⟨sm', hsm⟩ : ∃ s : Sg, s = ax_u2 (ax_u2 sm 103 i x) 84 19 y := ⟨_, rfl⟩
  rw [← hsm] at m1 m3
  rw [← hsm]
  have sfm : SFm sm sm' := ⟨fun c x => m1 c (by omega) (by omega), fun j x => m3 j (by omega)⟩
  have rx : RXF sc sm sc sm' S P A N C := ⟨fun _ _ _ _ _ => rfl, fun c i x y z => by rw [m1 c (by omega) (by omega)], fun c p x y _ => by rw [m1 c (by omega) (by omega)], fun c i x y z => by rw [m1 c (by omega) (by omega)], fun _ _ _ _ _ => rfl, fun _ _ => rfl, fun c n x y _ => by rw [m1 c (by omega) (by omega)], fun _ _ => rfl⟩
  have owr : OWR T sc sm' S := by
    intro id hid
    rw [m1 95 (by decide) (by decide)]
    exact e17.2.2.2.2.2.1 id hid
  have dat : DAT T sc sm' S P A N C w := by
    refine e17.ext rx (Nat.le_refl _) (Nat.le_refl _) (Nat.le_refl _) (Nat.le_refl _) (Nat.le_refl _) (fun _ y z => absurd z (by omega)) (fun _ y z => absurd z (by omega)) (fun _ y z => absurd z (by omega)) (fun _ _ y z => absurd z (by omega)) (fun _ y z => absurd z (by omega)) (fun _ y z => absurd z (by omega)) (fun _ y z => absurd z (by omega)) (fun _ _ y z => absurd z (by omega)) owr (PHE.same _ _ _ _ _) (CLE.same _ (by rw [m3 18 (by decide)]; exact Int.le_refl _)) (LOE.same _ _ _ _) ?_
    exact ⟨fun y => ⟨y, fun _ y z => absurd z (by omega), fun _ y z => absurd z (by omega), fun _ y z => absurd z (by omega)⟩, fun y => y.1⟩
  refine ⟨e1, sfm.mc e2, e3, by rw [m3 18 (by decide)]; exact e4, by rw [m3 6 (by decide)]; exact e5, ?_, e7, ?_, ?_, e10, by rw [m3 31 (by decide)]; exact e11, by rw [m3 34 (by decide)]; exact e12, e13, e14, e15, e16.trans sfm, dat, ?_, e19, e20, e21, e22, e23, e24, e25, e26, e27, by rw [m3 30 (by decide)]; exact e28, e29, e30, e31⟩
  · exact e6.congr rfl (m3 47 (by decide)) (m3 57 (by decide)) (fun _ _ _ _ _ => rfl) (fun c n x y _ => by rw [m1 c (by omega) (by omega)]) (fun j _ => by rw [m1 125 (by decide) (by decide)])
  · intro k x y
    obtain ⟨f1, f2, f3, f4⟩ := e8 k (by omega) y
    exact ⟨f1, by rw [m1 91 (by decide) (by decide)]; exact f2, by rw [m1 92 (by decide) (by decide)]; exact f3, by rw [m1 93 (by decide) (by decide)]; exact f4⟩
  · intro k x
    exact (e9 k x).congr rfl (by rw [m1 91 (by decide) (by decide)]) (by rw [m1 92 (by decide) (by decide)]) (by rw [m1 93 (by decide) (by decide)])
  · intro i hi
    rw [m1 102 (by decide) (by decide)]
    exact e18 i hi
/-- the last '}' of an instruction -/
theorem PS1.out (hT : TWF T) (hp : POS T) (h : PS1 T sc0 sm0 sc sm a S P A N K C B 1 np w) (t : T.tk a = 125) (k : CLd T sc s2 a B 1 0) : ∃ sm' : Sg, j_233_359 (S : Int) (ax_u2 (ax_u2 (adv sm (a + 1)) 84 43 0) 84 46 (-1)) = some sm' ∧ PS0 T sc0 sm0 s2 sm' (a + 1) (S + 1) P A N K C w := by
  have x1 := h.cls hT hp t (Nat.zero_le _) k (x := 0) (y := -1)
  obtain ⟨hS, hA, hz, h8, hC8, hB8, -, -, -⟩ := h.sz hT hp
  obtain ⟨h1, h2, ⟨q1, q2, q3, q4, q5, q6⟩, h4⟩ := h
  obtain ⟨e1, e2, e3, e4, e5, e6, e7, e8, e9, e10, e11, e12, e13, e14, e15, e16, e17, e18, e19, e20, e21, e22, e23, e24, e25, e26, e27, e28, e29, e30, e31⟩ := h1
  have z0 := hT.lt hz (by rw [t]; decide)
  obtain ⟨m0, hm0⟩ : ∃ s : Sg, s = ax_u2 (ax_u2 (adv sm (a + 1)) 84 43 0) 84 46 (-1) := ⟨_, rfl⟩
  have rm : ∀ c, c ≠ 84 → m0 c = sm c := fun c u => by rw [hm0, u2_row _ _ _ u, u2_row _ _ _ u, adv_row u]
  have r8 : ∀ j, j ≠ 18 → j ≠ 43 → j ≠ 46 → m0 84 j = sm 84 j := fun j u v z => by rw [hm0, u2_col _ _ _ z, u2_col _ _ _ v, adv_col u]
  rw [← hm0] at x1
  rw [← hm0]
  obtain ⟨k1, k2, k3, k4, k5, k6, k7, k8⟩ := id k
  obtain ⟨hh, p0, pc, n0, -, -, -, -, -, -, -, -, s60, sN, -⟩ := e17.1 S (by omega)
  have w47 : m0 84 47 = (N : Int) := by rw [r8 47 (by decide) (by decide) (by decide)]; exact e6.2.1
  have w103 : m0 103 S = (n0 : Int) := by rw [rm 103 (by decide), q4, s60]
  have w19 : m0 84 19 = (S : Int) := by rw [r8 19 (by decide) (by decide) (by decide)]; exact q1
  have w6 : m0 84 6 = 0 := by rw [r8 6 (by decide) (by decide) (by decide)]; exact e5
  refine ⟨ax_u2 (ax_u2 m0 103 S ((N : Int) - (n0 : Int))) 84 19 ((S + 1 : Nat) : Int), ?_, PXB.ps (PXB.cnt x1.px), k4, u2_same _ _ _ _, ?_, ?_, ?_, Or.inr (by rw [show a + 1 - 1 = a by omega]; exact t), ?_⟩
  · unfold j_233_359
    rw [if_pos (by omega), gd_pos (by omega), gd_pos (by omega), Int.toNat_natCast, w47, w103, w19, w32_id (z := (N : Int) - (n0 : Int)) (by omega) (by omega), w32_nat (by omega)]
  · have := hp.1 a z0
    omega
  · intro cn id hid
    have hid' := hid.lt hT
    have cn' : CN sc := by unfold CN at *; rw [k3 30 (by decide)] at cn; exact cn
    obtain ⟨b1, b2, b3, b4, b5, -⟩ := (h2.2.2.2.2.2.2.2.2.2.2.2 cn').1
    have hm := hT.2.2.2.2.2.2
    by_cases u : ∃ i, i < B ∧ sc 38 i = (id : Int)
    · obtain ⟨i, u1, u2⟩ := u
      have := k7 i (by omega) u1 (by omega) (by omega)
      rw [u2, Int.toNat_natCast] at this
      exact this
    · rw [k8 id (fun i _ hi e => u ⟨i, hi, e⟩)]
      apply Decidable.byContradiction
      intro hn
      obtain ⟨i, u1, u2⟩ := b5 id hid hn
      exact u ⟨i, u1, u2⟩
  · intro i hi
    rw [k3 60 (by decide), u2_row _ _ _ (by decide)]
    by_cases e : i = S
    · rw [e, u2_same, if_neg (by omega), s60]
      omega
    · rw [u2_col _ _ _ e, rm 103 (by decide), q3 i (by omega), if_pos (by omega)]
  · have := dpt_c t q6 (by omega)
    rw [this]
    rfl
/-- how '}' comes out -/
theorem cls_sim (hT : TWF T) (hp : POS T) (h : PS1 T sc0 sm0 sc sm a S P A N K C B D np w) (t : T.tk a = 125) (F : Nat) :
    (∃ (sc' sm' : Sg) (a' B' D' : Nat), f_144 sc = some (.inl sc') ∧ j_254_10 (F + 1) (S : Int) sm = j_254_10 F (S : Int) sm' ∧ a < a' ∧ PS1 T sc0 sm0 sc' sm' a' S P A N K C B' D' np w) ∨
    (∃ (sc' m0 sm' : Sg), f_144 sc = some (.inl sc') ∧ j_254_10 (F + 1) (S : Int) sm = j_254_10 F (S : Int) m0 ∧ m0 84 6 = 0 ∧ m0 84 43 = 0 ∧ j_233_359 (S : Int) m0 = some sm' ∧ PS0 T sc0 sm0 sc' sm' (a + 1) (S + 1) P A N K C w) ∨
    (∃ (x : Nat) (s' mF : Sg), f_144 sc = some (.inr (x, s')) ∧ (x = 14 ∨ x = 15) ∧ BSc T sc s' ∧ j_254_10 (F + 1) (S : Int) sm = j_254_10 F (S : Int) mF ∧ BSm sm mF) := by
  obtain ⟨hS, hA, hz, h8, hC8, hB8, h39, -, -⟩ := h.sz hT hp
  obtain ⟨h1, h2, h3, h4⟩ := id h
  obtain ⟨e1, e2, e3, e4, e5, e6, e7, e8, e9, e10, e11, e12, e13, e14, -⟩ := id h1
  obtain ⟨b1, b2, b3, b4, b5, b6, b7, b8, b9, b10, b11, b12⟩ := id h2
  have z0 := hT.lt hz (by rw [t]; decide)
  have hM0 := b6 (D - 1) (by omega)
  obtain ⟨M, hM⟩ : ∃ M : Nat, sc 72 (D - 1) = (M : Int) := ⟨(sc 72 (D - 1)).toNat, by omega⟩
  obtain ⟨s2, k, rc⟩ := c146 hT e1 e3 t e14 (by omega) b1 b3 b4 hM (by omega)
  have eta : ∀ o : Option (Sum Sg (Nat × Sg)), (xb o fun q => some (.inl q)) = o := fun o => by
    cases o with
    | none => rfl
    | some o => cases o <;> rfl
  have r144 : f_144 sc = f_146 sc := by
    unfold f_144
    rw [if_neg (by rw [h39, t]; simp), eta]
  have c71 : s2 71 = sc 71 := k.2.2.1 71 (by decide)
  obtain ⟨d1, d2, d3, d4, d5⟩ := b5 (D - 1) (by omega)
  have w1 : ax_w32 ((adv sm (a + 1)) 84 43 - 1) = ((D - 1 : Nat) : Int) := by rw [adv_col (by decide), b2, w32_id (by omega) (by omega)]; omega
  have r254 : j_254_10 (F + 1) (S : Int) sm = j_254_76 (j_254_10 F) (S : Int) (sm 114 (D - 1)) (if D = 1 then -1 else sm 115 (D - 2)) (ax_u2 (adv sm (a + 1)) 84 43 ((D - 1 : Nat) : Int)) := by
    rw [j_254_10, if_neg (by rw [e5]; decide), if_neg (by rw [b2]; omega), eatY e2 hT e5 e4 hz (k := 125) (by decide) t]
    rw [if_neg (by simp), show ((1 : Int), adv sm (a + 1)).snd = adv sm (a + 1) from rfl, w1, gd_pos (by omega), Int.toNat_natCast, adv_row (show 114 ≠ 84 by decide)]
    by_cases D1 : D = 1
    · rw [if_pos (by omega), if_pos D1]
    · have w2 : ax_w32 (((D - 1 : Nat) : Int) - 1) = ((D - 2 : Nat) : Int) := by rw [w32_id (by omega) (by omega)]; omega
      rw [if_neg (by omega), if_neg D1, w2, gd_pos (by omega), Int.toNat_natCast, adv_row (show 115 ≠ 84 by decide)]
  rw [r144, rc, r254, c71]
  by_cases D1 : D = 1
  · right; left
    subst D1
    have M0 : M = 0 := by
      have : sc 72 (1 - 1) = 0 := b9
      omega
    subst M0
    obtain ⟨sm', x1, x2⟩ := h.out hT hp t k
    have d10 : sm 114 (1 - 1) = 0 := b10
    rw [d10] at d2
    refine ⟨s2, ax_u2 (ax_u2 (adv sm (a + 1)) 84 43 0) 84 46 (-1), sm', ?_, ?_, ?_, ?_, x1, x2⟩
    · rw [if_pos (fun e => absurd (d2.mp e) (by decide))]
    · unfold j_254_76 j_254_97
      rw [d10, if_pos rfl, if_pos rfl]
      rfl
    · rw [u2_col _ _ _ (by decide), u2_col _ _ _ (by decide), adv_col (by decide)]; exact e5
    · rw [u2_col _ _ _ (by decide)]; exact u2_same _ _ _ _
  have x1 := h.pop hT hp t (by omega) hM k
  rw [if_neg D1]
  obtain ⟨m1, hm1⟩ : ∃ s : Sg, s = ax_u2 (ax_u2 (adv sm (a + 1)) 84 43 ((D - 1 : Nat) : Int)) 84 46 (sm 115 (D - 2)) := ⟨_, rfl⟩
  have sg1 : SFm sm m1 := by rw [hm1]; exact (adv_sf.trans (slot_sf (by decide))).trans (slot_sf (by decide))
  rw [← hm1] at x1
  unfold j_254_76 j_254_97
  rw [← hm1]
  obtain ⟨i1, i2, i3, i4, i5, -⟩ := id x1.1
  by_cases n1 : sm 114 (D - 1) = 0
  · left
    rw [n1] at d2
    exact ⟨s2, m1, a + 1, M, D - 1, by rw [if_pos (fun e => absurd (d2.mp e) (by decide))], by rw [if_pos n1], by omega, x1⟩
  have n2 : sm 114 (D - 1) = 1 := by omega
  rw [if_neg n1, if_neg (fun e => e (d2.mpr n2))]
  by_cases te : T.tk (a + 1) = 22
  rotate_left
  · left
    refine ⟨s2, m1, a + 1, M, D - 1, by rw [if_pos te], ?_, by omega, x1⟩
    rw [eatN i2 hT i4 i3.2.2 (k := 22) (by decide) (by decide) te]
    rw [if_pos rfl]
  rw [if_neg (fun e => e te), nxt hT i1 i3 (by rw [te]; decide), eatY i2 hT i5 i4 i3.2.2 (k := 22) (by decide) te]
  rw [if_neg (by simp)]
  have z1 := hT.lt i3.2.2 (by rw [te]; decide)
  have cu2 : CU T (cur T s2 (a + 1 + 1)) (a + 1 + 1) := cur_cu (by omega)
  have c70 : (cur T s2 (a + 1 + 1)) 70 9 = ((D - 1 : Nat) : Int) := by rw [cur_row (by decide)]; exact x1.2.1.1
  have sf2 : SFc sc (cur T s2 (a + 1 + 1)) := (k.sf (by omega)).trans cur_sf
  have f2 : (adv m1 (a + 1 + 1)) 84 6 = 0 := by rw [adv_col (by decide)]; exact i5
  have u2 : (adv m1 (a + 1 + 1)) 84 18 = ((a + 1 + 1 : Nat) : Int) := adv_at
  have w43 : (adv m1 (a + 1 + 1)) 84 43 = ((D - 1 : Nat) : Int) := by rw [adv_col (by decide)]; exact x1.2.1.2.1
  by_cases t2 : T.tk (a + 1 + 1) = 123
  · left
    have z2 := hT.lt cu2.2.2 (by rw [t2]; decide)
    refine ⟨_, _, a + 1 + 1 + 1, M, D - 1 + 1, ?_, ?_, by omega, x1.els hT hp te (by rw [show a + 1 - 1 = a by omega]; exact t) t2 z2 (by omega)⟩
    · rw [c154y hT (sf2.cc e1) cu2 t2 c70 (by omega), xb_inl]
      rfl
    · rw [m258y hT (adv_sf.mc i2) f2 u2 cu2.2.2 t2 w43 (by omega) (Or.inl rfl), Option.bind_some]
  · right; right
    obtain ⟨x, y1, y2⟩ := c154n (T := T) (s := cur T s2 (a + 1 + 1)) (a := a + 1 + 1) (b := D - 1) (w := 22) (m := (M : Int)) cu2 c70 (Or.inl t2)
    obtain ⟨mF, y3, y4⟩ := m258n hT (adv_sf.mc i2) f2 u2 cu2.2.2 t2 w43 (by omega) (x := 0) (Or.inl rfl)
    exact ⟨x, _, mF, by rw [y2, xb_err], y1, ⟨sf2, _, cu2⟩, by rw [y3, Option.bind_some], (sg1.trans adv_sf).trans y4.1, y4.2⟩
end OUTI
