/-! REDUCING: an operator with two sides; all that bind as tightly. -/
section RB
variable {T : TT} {sc0 sm0 sc sm : Sg} {sn rp : Int} {a0 N0 K0 base W O op a N K q b nl ll : Nat}
theorem red_bin {p nl' ll' b' : Nat} (hT : TWF T) (h : P2 T sc0 sm0 sn rp a0 N0 K0 base W O op sc sm a N K (q + 1) b nl ll)
    (c1 : b = b' + 1) (c2 : 10 ≤ sc 67 (base + q)) (c3 : sc 67 (base + q) ≤ 20) (c4 : sm 129 (W + q) = sc 67 (base + q)) (c6 : ll = p + 1) (c7 : nl' < nl) (c8 : sc 68 (base + q) = (nl : Int) - 1) (c9 : sc 69 (base + q) = sm 127 (O + b')) (c10 : LF T sc sm p) (c11 : SEG T sc sm sn rp K p (p + 1) nl nl)
    (c12 : OPD T sc sm sn rp K (O + b') ll' p nl' nl (if wl (sc 67 (base + q)) ≤ lev (sm 116 (nl - 1)) then 2 else 0)) (c13 : STK T sc sm sn rp K base W O a0 N0 q b' nl' ll') :
    ∃ sc' sm' : Sg, (∀ F l, l ≤ lev (sc 67 (base + q)) → j_58_0 (F + 1) (base : Int) l sc = j_58_0 F (base : Int) l sc') ∧ (∀ F l, l ≤ lev (sc 67 (base + q)) → j_269_0 (F + 1) l sm = j_269_0 F l sm') ∧ sc' 67 = sc 67 ∧ P2 T sc0 sm0 sn rp a0 N0 K0 base W O op sc' sm' a (N + 1) (K + 2) q b' nl' ll' := by
  obtain ⟨hE, h59, hS, hO, hP, hK, hB, h70⟩ := h
  obtain ⟨e1, e2, e3, e4, e5, e6, e7, e8, e9, e10, e11, e12, e13, e14, e15, e16, e17, e18, e19, e20, e21, e22, e23⟩ := id hE
  obtain ⟨t1, t2, t3, t4, t5, t6⟩ := hP
  obtain ⟨o1, o2, ⟨st, o3, o4, o5⟩, o6, o7, o8⟩ := id hO
  obtain ⟨d1, d2, ⟨sl, d3, d4, d5⟩, d6, d7, d8⟩ := id c12
  have bd := STK.bd _ _ _ _ c13
  have bs := o8.2.2.1
  have bl := d8.2.2.1
  have bl1 := d8.2.1
  have hz := e3.2.2
  have h8 := hT.1
  have hk0 : 0 ≤ sc 67 (base + q) := by omega
  have hk1 : sc 67 (base + q) ≤ 21 := by omega
  have hlv := (lev_b _ hk0 hk1).2.2.1 c2 c3
  obtain ⟨cx, qx, nx1, nx2, nx3, nx4, nx5, nr6, nr7, _⟩ := e6.2.2.2 (N - 1) (by omega)
  obtain ⟨cy, qy, ny1, ny2, ny3, ny4, ny5, nl6, nl7, _⟩ := e6.2.2.2 (nl - 1) (by omega)
  generalize hkk : sc 67 (base + q) = k at *
  -- the class
  have hw : ax_w32 (sc 66 7 - 1) = ((base + q : Nat) : Int) := by rw [e7, w32_id (by omega) (by omega)]; omega
  have s6 := s66 (sc := sc) (i := base + q) (by rw [e7]; omega) (by omega)
  rw [hkk] at s6
  have hcA : CC T (ax_u2 sc 66 7 ((base + q : Nat) : Int)) := e1.row (by simp [ax_u2]) (by funext x; simp [ax_u2]) (by funext x; simp [ax_u2]) (by funext x; simp [ax_u2]) (by simp [ax_u2]) (by funext x; simp [ax_u2])
  have oA : OBR T (ax_u2 sc 66 7 ((base + q : Nat) : Int)) sm (O + b) ll a 2 := o7.rows (fun k _ _ => by simp [ax_u2]) (fun _ _ _ => rfl) rfl rfl rfl rfl
  obtain ⟨sB, w1, w2, w3, w4⟩ := want_c (w := lev k + 1) hcA oA hz h8 (L := lev (sm 116 (N - 1))) (by simpa [ax_u2] using t3) (by simpa [ax_u2] using t4) (fun x => by simpa [ax_u2] using t5 x) (fun p x => by simpa [ax_u2] using t6 p x)
  have rB : ∀ c, c ≠ 45 → c ≠ 66 → sB c = sc c := fun c x y => by rw [w4 c x]; exact u2_row _ _ _ y
  have cB : ∀ j, j ≠ 7 → sB 66 j = sc 66 j := fun j x => by rw [w4 66 (by decide)]; exact u2_col _ _ _ x
  have sB7 : sB 66 7 = ((base + q : Nat) : Int) := by rw [w4 66 (by decide)]; exact u2_same _ _ _ _
  have sB46 : sB 46 7 = (N : Int) := by rw [rB 46 (by decide) (by decide)]; exact e6.1
  obtain ⟨lk1, lk2⟩ := link_c (sc := sB) (x := (nl : Int) - 1) (y := (N : Int) - 1) (r := nl - 1) (by omega) sB46 (by omega) (by omega)
  have rC : ∀ c, c ≠ 52 → (ax_u2 sB 52 (nl - 1) ((N : Int) - 1)) c = sB c := fun c x => u2_row _ _ _ x
  have sC46 : (ax_u2 sB 52 (nl - 1) ((N : Int) - 1)) 46 7 = (N : Int) := by rw [rC 46 (by decide)]; exact sB46
  obtain ⟨g1, g2, g3, g4⟩ := c124 sC46 (by omega) k (sl : Int) ((nl : Int) - 1) 2 (lev k)
  -- the reference
  have hwm : ax_w32 (sm 84 63 - 1) = ((W + q : Nat) : Int) := by rw [e8, w32_id (by omega) (by omega)]; omega
  have hom : ax_w32 (sm 84 59 - 2) = ((O + b' : Nat) : Int) := by rw [h59, w32_id (by omega) (by omega)]; omega
  obtain ⟨mL, x1, x2, x3, x4⟩ := use_m (T := T) (sc := sB) (sm := ax_u2 sm 84 63 ((W + q : Nat) : Int)) (o := O + b') (l0 := ll') (l1 := p) (w := wl k) (n := nl - 1) (by rw [show (ax_u2 sm 84 63 ((W + q : Nat) : Int)) 116 (nl - 1) = sm 116 (nl - 1) by simp [ax_u2]]; exact d7.rows (fun k _ _ => by rw [w3 k (by omega)]; simp [ax_u2]) (fun k _ _ => by simp [ax_u2]) (by funext x; simp [ax_u2]) (by funext x; simp [ax_u2]) (by funext x; simp [ax_u2]) (by funext x; simp [ax_u2])) (by simp [ax_u2]; omega) (by simpa [ax_u2] using nl6) (by simpa [ax_u2] using nl7) (by omega) (by omega) (by omega)
  have rL : ∀ c, c ≠ 91 → c ≠ 84 → mL c = sm c := fun c x y => by rw [x4 c x]; exact u2_row _ _ _ y
  have cL : ∀ j, j ≠ 63 → mL 84 j = sm 84 j := fun j x => by rw [x4 84 (by decide)]; exact u2_col _ _ _ x
  have mL63 : mL 84 63 = ((W + q : Nat) : Int) := by rw [x4 84 (by decide)]; exact u2_same _ _ _ _
  have hom1 : ax_w32 (mL 84 59 - 1) = ((O + b : Nat) : Int) := by rw [cL 59 (by decide), h59, w32_id (by omega) (by omega)]; omega
  obtain ⟨mB, u1, u2, u3, u4⟩ := use_m (T := T) (sc := sB) (sm := mL) (o := O + b) (l0 := ll) (l1 := a) (w := lev k + 1) (n := N - 1) (by rw [rL 116 (by decide) (by decide)]; exact w2.rows (fun _ _ _ => rfl) (fun k _ _ => by rw [x3 k (by omega)]; simp [ax_u2]) (rL 92 (by decide) (by decide)) (rL 93 (by decide) (by decide)) (rL 128 (by decide) (by decide)) (rL 132 (by decide) (by decide))) (by rw [rL 126 (by decide) (by decide)]; omega) (by rw [rL 116 (by decide) (by decide)]; exact nr6) (by rw [rL 116 (by decide) (by decide)]; exact nr7) (by omega) (by omega) (by omega)
  have rM : ∀ c, c ≠ 91 → c ≠ 84 → mB c = sm c := fun c x y => by rw [u4 c x]; exact rL c x y
  have cM : ∀ j, j ≠ 63 → mB 84 j = sm 84 j := fun j x => by rw [u4 84 (by decide)]; exact cL j x
  have mB63 : mB 84 63 = ((W + q : Nat) : Int) := by rw [u4 84 (by decide)]; exact mL63
  have hom2 : ax_w32 (mB 84 59 - 2) = ((O + b' : Nat) : Int) := by rw [cM 59 (by decide)]; exact hom
  obtain ⟨mD, v1, v2⟩ := m266 (s := mB) (N := N) (K := K) (o := O + b') (c := 2) (by rw [cM 47 (by decide)]; exact e6.2.1) (by rw [cM 57 (by decide)]; exact e6.2.2.1) (by rw [cM 59 (by decide), h59]; omega) (by omega) (by omega) (by omega) (by omega) k (sl : Int) (mB 130 (W + q)) (-1)
  refine ⟨f_64 (N : Int) (sl : Int) (lev k) (f_124 k (sl : Int) ((nl : Int) - 1) 2 (ax_u2 sB 52 (nl - 1) ((N : Int) - 1))).2, mD, ?_, ?_, by rw [g3.2.2.2.2.2.2.2.2.2.2.2.2.2.2.2.1 67 (by omega), rC 67 (by decide)]; exact rB 67 (by decide) (by decide), ?_⟩
  · intro F l hl
    have i69 : sB 69 (base + q) = (sl : Int) := by rw [rB 69 (by decide) (by decide), c9, d3]
    have i68 : sB 68 (base + q) = (nl : Int) - 1 := by rw [rB 68 (by decide) (by decide), c8]
    have i8 : sB 66 8 = (N : Int) - 1 := by rw [cB 8 (by decide), t1]
    have hcB : CC T sB := hcA.row (by rw [w4 39 (by decide)]) (w4 41 (by decide)) (w4 42 (by decide)) (w4 44 (by decide)) (by rw [w4 31 (by decide)]) (w4 1 (by decide))
    have hcD : CC T (f_124 k (sl : Int) ((nl : Int) - 1) 2 (ax_u2 sB 52 (nl - 1) ((N : Int) - 1))).2 := hcB.row (by rw [c124i sC46 (by omega) _ _ _ _ (by omega), rC 39 (by decide)]) (by rw [c124i sC46 (by omega) _ _ _ _ (by omega), rC 41 (by decide)]) (by rw [c124i sC46 (by omega) _ _ _ _ (by omega), rC 42 (by decide)]) (by rw [c124i sC46 (by omega) _ _ _ _ (by omega), rC 44 (by decide)]) (by rw [c124i sC46 (by omega) _ _ _ _ (by omega), rC 31 (by decide)]) (by rw [c124i sC46 (by omega) _ _ _ _ (by omega), rC 1 (by decide)])
    rw [j_58_0, if_neg (by omega), if_neg (by omega), hw, gd_pos s6.2, s6.1, gd_pos (f57 e1 hk0 hk1).2, (f57 e1 hk0 hk1).1, if_neg (by omega), gd_pos s6.2, gd_pos (f57 hcA hk0 hk1).2, (f57 hcA hk0 hk1).1, if_pos (by omega), gd_pos (f57 hcA hk0 hk1).2, w32_id (by omega) (by omega), w1]
    simp only [Option.bind_some]
    rw [gd_pos (by omega), sB7, Int.toNat_natCast, i68, i8, gd_pos lk1, lk2]
    rw [rC 66 (by decide), sB7, Int.toNat_natCast, gd_pos (by omega), gd_pos (by omega), rC 69 (by decide), i69, rC 68 (by decide), i68, gd_pos g1, c124i sC46 (by omega) _ _ _ _ (by omega), rC 66 (by decide), sB7, gd_pos (by omega), gd_pos (f57 hcD hk0 hk1).2, (f57 hcD hk0 hk1).1, g2, c124i sC46 (by omega) _ _ _ _ (by omega), rC 69 (by decide), Int.toNat_natCast, i69]
    rfl
  · intro F l hl
    have lm : f_268 k sm = lev k := f268 _ hk0 hk1 _
    have lm2 : f_268 k (ax_u2 sm 84 63 ((W + q : Nat) : Int)) = lev k := f268 _ hk0 hk1 _
    rw [j_269_0, if_neg (by omega), hwm, gd_pos (by omega), Int.toNat_natCast, c4, if_neg (by omega), gd_pos (by omega), lm, if_neg (by omega), gd_pos (by omega), if_neg (by omega), if_pos (by omega), hom, lm2]
    have ew : (if ¬ lev k = 1 then lev k else 2) = wl k := by unfold wl; split <;> simp_all
    rw [ew, x1]
    simp only [Option.bind_some]
    rw [hom1, w32_id (by omega) (by omega), u1]
    simp only [Option.bind_some]
    rw [hom2, gd_pos (by omega), mB63, gd_pos (by omega), Int.toNat_natCast, Int.toNat_natCast, rM 127 (by decide) (by decide), d3]
    have v1' : f_266 k (sl : Int) (mB 130 (W + q)) (-1) 2 mB = some mD := v1
    rw [v1']
    rfl
  · have nrt : ¬ CHD sm N (nl - 1) := e6.root (fun m y1 y2 cc qq i z1 z2 z3 => by
      have := o8.kids (m := m) (by omega) y2 z1 z2 z3
      omega)
    have nrtB : ¬ CHD mB N (nl - 1) := by
      unfold CHD at *
      rw [rM 120 (by decide) (by decide), rM 121 (by decide) (by decide), rM 125 (by decide) (by decide)]
      exact nrt
    have ndB : ND T sB mB N K := e6.congr (by rw [rB 46 (by decide) (by decide)]) (cM 47 (by decide)) (cM 57 (by decide)) (fun c n x y _ => by rw [rB c (by omega) (by omega)]) (fun c n x y _ => by rw [rM c (by omega) (by omega)]) (fun j _ => by rw [rM 125 (by decide) (by decide)])
    have ndC := ndB.link (y := (N : Int) - 1) nrtB
    have xB : XF sc sm (ax_u2 sB 52 (nl - 1) ((N : Int) - 1)) mB ll' a nl' K (base + q) (W + q) (O + b') := ⟨fun k x => ⟨by rw [rC 45 (by decide), w3 k (by omega)]; simp [ax_u2], by rw [u3 k (by omega), x3 k (by omega)]; simp [ax_u2], by rw [rM 92 (by decide) (by decide)]⟩, fun c n x y z => by
        rw [← rB c (by omega) (by omega)]
        simp [ax_u2, show n ≠ nl - 1 by omega], fun c n x y _ => by rw [rM c (by omega) (by omega)], fun j _ => by rw [rM 125 (by decide) (by decide)], fun c n x y _ => by rw [rC c (by omega), rB c (by omega) (by omega)], fun c n x y _ => by rw [rM c (by omega) (by omega)], fun c n x y _ => by rw [rM c (by omega) (by omega)], fun k _ => by rw [rM 132 (by decide) (by decide)]⟩
    have ecB : EFc sc (ax_u2 sB 52 (nl - 1) ((N : Int) - 1)) := ⟨fun c x => by rw [rC c (by omega)]; exact rB c (by omega) (by omega), fun j _ _ => by rw [rC 39 (by decide), rB 39 (by decide) (by decide)], fun j _ => by rw [rC 30 (by decide), rB 30 (by decide) (by decide)]⟩
    have emB : EFm sm mB := ⟨fun c x => rM c (by omega) (by omega), fun j x => cM j (by omega)⟩
    have sg : SEG T sc sm sn rp K ll' a nl' N := d8.merge (c11.merge (by rw [← c6]; exact o8))
    have sgB : SEG T (ax_u2 sB 52 (nl - 1) ((N : Int) - 1)) mB sn rp K ll' a nl' N := sg.rows (fun c x y => rM c (by omega) (by omega)) (by rw [rC 48 (by decide)]; exact rB 48 (by decide) (by decide)) (by rw [rC 37 (by decide)]; exact rB 37 (by decide) (by decide))
    have kL : mB 126 (O + b') = (nl : Int) - 1 := by rw [rM 126 (by decide) (by decide)]; exact d2
    have kO : mB 126 (O + b' + 1) = (N : Int) - 1 := by rw [rM 126 (by decide) (by decide), show O + b' + 1 = O + b by omega]; exact o2
    have hNV : NV T (f_64 (N : Int) (sl : Int) (lev k) (f_124 k (sl : Int) ((nl : Int) - 1) 2 (ax_u2 sB 52 (nl - 1) ((N : Int) - 1))).2) mD N := by
      unfold NV
      rw [v2.2.2.2.1, g3.2.2.1, g3.2.2.2.1]
      exact ⟨fun y => by omega, fun y => by omega, fun y => by omega, fun _ y => by omega, fun _ => ⟨rfl, rfl⟩⟩
    have nk : NOK T (sc0 37) mD N := by
      unfold NOK
      rw [v2.2.2.2.1]
      exact ⟨fun y => by omega, fun y => by omega, fun y => by omega, fun y => by omega⟩
    refine MKP2 hE c13 xB ecB emB ?_ ?_ ?_ ndC (by rw [rC 66 (by decide)]; exact sB7) mB63 ?_ ?_ ?_ g3 v2 rfl rfl d4 (by omega) hk0 hk1 ?_ ?_ ?_ hNV ?_ ?_ (by omega) (by omega) hB (Nat.le_refl _) (Nat.le_refl _) (Nat.le_refl _) (by rw [cM 70 (by decide)]; exact h70)
    · unfold CU at *
      rw [rC 39 (by decide), rB 39 (by decide) (by decide)]
      exact e3
    · rw [cM 18 (by decide)]; exact e4
    · rw [cM 6 (by decide)]; exact e5
    · rw [cM 67 (by decide)]; exact e9
    · intro c n y1 y2 _
      rw [rM c (by omega) (by omega)]
    · intro k y1 y2
      have fr : ∀ k, LF T sB mB k → LF T (ax_u2 sB 52 (nl - 1) ((N : Int) - 1)) mB k := fun k h => h.congr (by rw [rC 45 (by decide)]) rfl rfl rfl
      apply fr
      by_cases dd : k < p
      · exact (x2 k y1 dd).congr rfl (by rw [u3 k (by omega)]) (by rw [u4 92 (by decide)]) (by rw [u4 93 (by decide)])
      · by_cases d : k = p
        · subst d
          exact c10.congr (by rw [w3 k (by omega)]; simp [ax_u2]) (by rw [u3 k (by omega), x3 k (by omega)]; simp [ax_u2]) (by rw [rM 92 (by decide) (by decide)]) (by rw [rM 93 (by decide) (by decide)])
        · exact u2 k (by omega) y2
    · exact ⟨fun y => by omega, fun y => by omega, fun _ => rfl, fun y => by omega, fun y => by omega⟩
    · rw [if_pos (by decide), kL]
    · intro i hi
      have : i = 0 ∨ i = 1 := by omega
      rcases this with rfl | rfl
      · refine ⟨nl - 1, by rw [Nat.add_zero, kL]; omega, by omega, ?_⟩
        rw [if_pos (by omega), u2_same, Nat.zero_add, kO]
      · refine ⟨N - 1, by rw [kO]; omega, by omega, ?_⟩
        rw [if_neg (by omega), u2_col _ _ _ (by omega), rB 52 (by decide) (by decide)]
        exact o6
    · refine sgB.addn v2 (fun n hn => g3.2.2.2.2.2.2.2.2.2.2.2.2.2.1 48 n (by decide) (by decide) (by omega)) (g3.2.2.2.2.2.2.2.2.2.2.2.2.2.2.2.1 37 (by omega)) (by omega) (by omega) (fun i hi => ?_) (by rw [cM 68 (by decide)]; exact e10) (by rw [cM 46 (by decide)]; exact e11) (fun _ y => by omega)
      have : i = 0 ∨ i = 1 := by omega
      rcases this with rfl | rfl
      · rw [Nat.add_zero, kL]; omega
      · rw [kO]; omega
    · have : CN (f_64 (N : Int) (sl : Int) (lev k) (f_124 k (sl : Int) ((nl : Int) - 1) 2 (ax_u2 sB 52 (nl - 1) ((N : Int) - 1))).2) ↔ CN sc := by
        unfold CN
        rw [g4, rC 30 (by decide), rB 30 (by decide) (by decide)]
      rw [this]
      exact ⟨fun h => ⟨h, fun n y1 y2 => by rw [show n = N by omega]; exact nk⟩, fun h => h.1⟩
/-- all that bind at least so tightly -/
theorem red_all {l : Int} (hT : TWF T) (hl : l ≤ 8) : ∀ (q : Nat) {sc sm : Sg} {N K b nl ll : Nat}, P2 T sc0 sm0 sn rp a0 N0 K0 base W O op sc sm a N K q b nl ll → ∀ F G : Nat,
    ∃ (sc' sm' : Sg) (N' K' q' b' nl' ll' : Nat), j_58_0 (F + q + 1) (base : Int) l sc = some sc' ∧ j_269_0 (G + q + 1) l sm = some sm' ∧ P2 T sc0 sm0 sn rp a0 N0 K0 base W O op sc' sm' a N' K' q' b' nl' ll' ∧ q' ≤ q ∧ (q' = 0 ∨ lev (sc' 67 (base + (q' - 1))) < l) ∧ (∀ i, i < q' → sc' 67 (base + i) = sc 67 (base + i)) ∧ (∀ i, q' ≤ i → i < q → l ≤ lev (sc 67 (base + i))) := by
  intro q
  induction q with
  | zero =>
    intro sc sm N K b nl ll h F G
    refine ⟨sc, sm, N, K, 0, b, nl, ll, ?_, ?_, h, Nat.le_refl _, Or.inl rfl, fun i hi => absurd hi (by omega), fun i _ hi => absurd hi (by omega)⟩
    · have e7 := h.1.2.2.2.2.2.2.1
      rw [j_58_0, if_pos (by omega)]
    · have e8 := h.1.2.2.2.2.2.2.2.1
      have e17 := h.1.2.2.2.2.2.2.2.2.2.2.2.2.2.2.2.2.1
      have hb := h.1.2.2.2.2.2.2.2.2.2.2.2.2.2.2.2.2.2.2.1
      have ha := h.1.2.2.1.2.2
      have ha2 := h.1.2.2.2.2.2.2.2.2.2.2.2.2.2.2.2.2.2.2.2.2.2.1
      have h8 := hT.1
      rw [j_269_0]
      rcases e17 with e | e
      · rw [if_pos (by omega)]
      · by_cases d : W = 0
        · rw [if_pos (by omega)]
        · have : ax_w32 (sm 84 63 - 1) = ((W - 1 : Nat) : Int) := by rw [e8, w32_id (by omega) (by omega)]; omega
          rw [if_neg (by omega), this, gd_pos (by omega), Int.toNat_natCast, if_pos e]
  | succ q ih =>
    intro sc sm N K b nl ll h F G
    have hS := h.2.2.1
    have e1 := h.1.1
    have e7 := h.1.2.2.2.2.2.2.1
    have e8 := h.1.2.2.2.2.2.2.2.1
    have h8 := hT.1
    have ha := h.1.2.2.1.2.2
    have bd := STK.bd _ _ _ _ hS
    have e18 := h.1.2.2.2.2.2.2.2.2.2.2.2.2.2.2.2.2.2.1
    have e19 := h.1.2.2.2.2.2.2.2.2.2.2.2.2.2.2.2.2.2.2.1
    have bs := h.2.2.2.1.2.2.2.2.2.2.2.1
    have bo := h.2.2.2.1.1
    have kk : 0 ≤ sc 67 (base + q) ∧ sc 67 (base + q) ≤ 21 ∧ sm 129 (W + q) = sc 67 (base + q) := by
      rcases hS with ⟨p, b1, b2, _⟩ | ⟨p, nl', ll', b', b1, b2, b3, b4, _⟩
      · exact ⟨by omega, by omega, b2⟩
      · exact ⟨by omega, by omega, b4⟩
    by_cases d : lev (sc 67 (base + q)) < l
    · have hw : ax_w32 (sc 66 7 - 1) = ((base + q : Nat) : Int) := by rw [e7, w32_id (by omega) (by omega)]; omega
      have s6 := s66 (sc := sc) (i := base + q) (by rw [e7]; omega) (by omega)
      have hwm : ax_w32 (sm 84 63 - 1) = ((W + q : Nat) : Int) := by rw [e8, w32_id (by omega) (by omega)]; omega
      refine ⟨sc, sm, N, K, q + 1, b, nl, ll, ?_, ?_, h, Nat.le_refl _, Or.inr (by rw [show q + 1 - 1 = q by omega]; exact d), fun i _ => rfl, fun i x y => absurd y (by omega)⟩
      · rw [j_58_0, if_neg (by omega), if_neg (by omega), hw, gd_pos s6.2, s6.1, gd_pos (f57 e1 kk.1 kk.2.1).2, (f57 e1 kk.1 kk.2.1).1, if_pos d]
      · rw [j_269_0, if_neg (by omega), hwm, gd_pos (by omega), Int.toNat_natCast, kk.2.2, if_neg (by omega), gd_pos (by omega), f268 _ kk.1 kk.2.1, if_pos d]
    · have step : ∃ (sc1 sm1 : Sg) (N1 K1 b1 nl1 ll1 : Nat), (∀ F, j_58_0 (F + 1) (base : Int) l sc = j_58_0 F (base : Int) l sc1) ∧ (∀ F, j_269_0 (F + 1) l sm = j_269_0 F l sm1) ∧ P2 T sc0 sm0 sn rp a0 N0 K0 base W O op sc1 sm1 a N1 K1 q b1 nl1 ll1 ∧ sc1 67 = sc 67 := by
        rcases hS with ⟨p, b1, b2, b3, b4, b5, b6, b7, b8⟩ | ⟨p, nl', ll', b', b1, b2, b3, b4, b5, b6, b7, b8, b9, b10, b11, b12, b13⟩
        · obtain ⟨sc1, sm1, z1, z2, z3, z4⟩ := red_pre hT h b1 b2 b3 b4 b5 b6 b7 b8
          exact ⟨sc1, sm1, _, _, _, _, _, fun F => z1 F l hl, fun F => z2 F l hl, z4, z3⟩
        · obtain ⟨sc1, sm1, z1, z2, z3, z4⟩ := red_bin hT h b1 b2 b3 b4 b6 b7 b8 b9 b10 b11 b12 b13
          exact ⟨sc1, sm1, _, _, _, _, _, fun F => z1 F l (by omega), fun F => z2 F l (by omega), z4, z3⟩
      obtain ⟨sc1, sm1, N1, K1, b1, nl1, ll1, z1, z2, z3, z4⟩ := step
      obtain ⟨sc', sm', N', K', q', b', nl', ll', y1, y2, y3, y4, y5, y6, y7⟩ := ih z3 F G
      refine ⟨sc', sm', N', K', q', b', nl', ll', ?_, ?_, y3, by omega, y5, fun i hi => by rw [y6 i hi, z4], fun i x y => ?_⟩
      · rw [show F + (q + 1) + 1 = F + q + 1 + 1 by omega, z1]
        exact y1
      · rw [show G + (q + 1) + 1 = G + q + 1 + 1 by omega, z2]
        exact y2
      · by_cases dd : i = q
        · subst dd; omega
        · rw [← z4]
          exact y7 i x (by omega)
end RB
