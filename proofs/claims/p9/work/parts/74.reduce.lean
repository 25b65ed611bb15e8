/-! REDUCING the operators that wait, on both sides. -/
def EI (T : TT) (sc0 sm0 : Sg) (sn rp : Int) (a0 N0 K0 base W O op : Nat) (sc sm : Sg) (a N K q : Nat) : Prop :=
  CC T sc ∧ MC T sm ∧ CU T sc a ∧ sm 84 18 = (a : Int) ∧ sm 84 6 = 0 ∧ ND T sc sm N K ∧ sc 66 7 = ((base + q : Nat) : Int) ∧ sm 84 63 = ((W + q : Nat) : Int) ∧ sm 84 67 = (op : Int) ∧ sm 84 68 = sn ∧ sm 84 46 = rp ∧
  (∀ k, a ≤ k → k < T.z → FRS T sc sm k) ∧ XF sc0 sm0 sc sm a0 a N0 K0 base W O ∧ EFc sc0 sc ∧ EFm sm0 sm ∧ (CN sc ↔ CN sc0 ∧ ∀ n, N0 ≤ n → n < N → NOK T (sc0 37) sm n) ∧ (W = 0 ∨ 100 ≤ sm 129 (W - 1)) ∧ N0 + base ≤ a0 ∧ W ≤ a0 ∧ K0 ≤ K ∧ N0 ≤ N ∧ a0 ≤ a ∧ 1 ≤ a0
def OTOP (sc sm : Sg) (N o : Nat) : Prop := sc 66 8 = (N : Int) - 1 ∧ sc 66 9 = sm 127 o ∧ sc 66 10 = lev (sm 116 (N - 1)) ∧ sc 66 11 = sm 128 o ∧ (sm 128 o = -1 → sc 66 12 = -1) ∧ (∀ p : Nat, sm 128 o = (p : Int) → sc 66 12 = sm 132 p)
/-- an operand has been read -/
def P2 (T : TT) (sc0 sm0 : Sg) (sn rp : Int) (a0 N0 K0 base W O op : Nat) (sc sm : Sg) (a N K q b nl ll : Nat) : Prop :=
  EI T sc0 sm0 sn rp a0 N0 K0 base W O op sc sm a N K q ∧ sm 84 59 = ((O + b + 1 : Nat) : Int) ∧ STK T sc sm sn rp K base W O a0 N0 q b nl ll ∧ OPD T sc sm sn rp K (O + b) ll a nl N 2 ∧ OTOP sc sm N (O + b) ∧ K + O + b + 1 ≤ N ∧ T.tk (a - 1) ∈ opB ∧ sm 84 70 = 0
/-- an operand is due -/
def P1 (T : TT) (sc0 sm0 : Sg) (sn rp : Int) (a0 N0 K0 base W O op : Nat) (sc sm : Sg) (a N K q b : Nat) : Prop :=
  EI T sc0 sm0 sn rp a0 N0 K0 base W O op sc sm a N K q ∧ sm 84 59 = ((O + b : Nat) : Int) ∧ STK T sc sm sn rp K base W O a0 N0 q b N a ∧ K + O + b ≤ N ∧ T.tk (a - 1) ∈ opA
section RD
variable {T : TT} {sc0 sm0 sc sm sc' sm' sc2 sm2 : Sg} {sn rp : Int} {a0 N0 K0 base W O op a a' N N' K K' q q' b nl ll o c : Nat} {k st fi cnt wd nu lv fi' lx nm : Int}
theorem MKC.ef (h : MKC sc sc2 N k st fi cnt wd nu lv) : EFc sc sc2 := by
  obtain ⟨p1, p2, p3, p4, p5, p6, p7, p8, p9, p10, p11, p12, p13, p14, p15, p16, p17⟩ := h
  exact ⟨fun c hc => p16 c (by omega), fun j _ _ => by rw [p16 39 (by omega)], p17⟩
theorem MKM.ef (h : MKM sm sm2 N K o c k fi' lx nm) : EFm sm sm2 := by
  obtain ⟨q1, q2, q3, q4, q5, q6, q7, q8, q9, q10, q11, q12, q13, q14, q15, q16, q17, q18, q19, q20⟩ := h
  exact ⟨fun c hc => q19 c (by omega), fun j hj => q20 j (by omega) (by omega) (by omega)⟩
theorem MK.xf (h : MKC sc sc2 N k st fi cnt wd nu lv) (g : MKM sm sm2 N K o c k fi' lx nm) (a a' base W : Nat) : XF sc sm sc2 sm2 a a' N K base W o := by
  obtain ⟨p1, p2, p3, p4, p5, p6, p7, p8, p9, p10, p11, p12, p13, p14, p15, p16, p17⟩ := h
  obtain ⟨q1, q2, q3, q4, q5, q6, q7, q8, q9, q10, q11, q12, q13, q14, q15, q16, q17, q18, q19, q20⟩ := g
  refine ⟨fun k _ => ⟨by rw [p16 45 (by omega)], by rw [q19 91 (by omega)], by rw [q19 92 (by omega)]⟩, fun c n x y w => p14 c n x y (by omega), fun c n x y w => q16 c n x y (by omega), q17, fun c i x y w => by rw [p16 c (by omega)], fun c i x y w => q18 c i x y (by omega), fun c i x y w => by rw [q19 c (by omega)], fun k _ => by rw [q19 132 (by omega)]⟩
theorem EI.gen (h : EI T sc0 sm0 sn rp a0 N0 K0 base W O op sc sm a N K q) (x : XF sc sm sc' sm' a0 a' N0 K0 base W O) (ec : EFc sc sc') (em : EFm sm sm') (hu : CU T sc' a') (hm : sm' 84 18 = (a' : Int)) (hf : sm' 84 6 = 0) (hN : ND T sc' sm' N' K')
    (hw : sc' 66 7 = ((base + q' : Nat) : Int)) (hW : sm' 84 63 = ((W + q' : Nat) : Int)) (ho : sm' 84 67 = (op : Int)) (hc : CN sc' ↔ CN sc ∧ ∀ n, N ≤ n → n < N' → NOK T (sc0 37) sm' n) (hok : ∀ c n, 116 ≤ c → c ≤ 124 → n < N → sm' c n = sm c n) (h1 : K ≤ K') (h2 : N ≤ N') (h3 : a ≤ a') :
    EI T sc0 sm0 sn rp a0 N0 K0 base W O op sc' sm' a' N' K' q' := by
  obtain ⟨e1, e2, e3, e4, e5, e6, e7, e8, e9, e10, e11, e12, e13, e14, e15, e16, e17, e18, e19, e20, e21, e22, e23⟩ := h
  refine ⟨ec.cc e1, em.mc e2, hu, hm, hf, hN, hw, hW, ho, by rw [em.2 68 (by omega)]; exact e10, by rw [em.2 46 (by omega)]; exact e11, ?_, e13.trans x (Nat.le_refl _) h3 (Nat.le_refl _) (Nat.le_refl _) (Nat.le_refl _) (Nat.le_refl _) (Nat.le_refl _), e14.trans ec, e15.trans em, ?_, ?_, e18, e19, by omega, by omega, by omega, e23⟩
  · intro k x1 x2
    obtain ⟨f1, f2, f3, f4⟩ := e12 k (by omega) x2
    obtain ⟨g1, g2, g3⟩ := x.1 k (Or.inr x1)
    exact ⟨g1.trans f1, g2.trans f2, g3.trans f3, by rw [em.1 93 (by omega)]; exact f4⟩
  · rw [hc, e16]
    constructor
    · intro ⟨⟨u, v⟩, w⟩
      refine ⟨u, fun n x1 x2 => ?_⟩
      by_cases d : n < N
      · rw [NOK.congr (fun c y1 y2 => hok c n y1 y2 d)]
        exact v n x1 d
      · exact w n (by omega) x2
    · intro ⟨u, v⟩
      refine ⟨⟨u, fun n x1 x2 => ?_⟩, fun n x1 x2 => v n (by omega) x2⟩
      rw [← NOK.congr (fun c y1 y2 => hok c n y1 y2 x2)]
      exact v n x1 (by omega)
  · rcases e17 with e17 | e17
    · exact Or.inl e17
    · by_cases d : W = 0
      · exact Or.inl d
      · right
        rw [x.2.2.2.2.2.2.1 129 (W - 1) (by decide) (by decide) (by omega)]
        exact e17
theorem c124i (h : sc 46 7 = (N : Int)) (hN : N < 8192) (k st fi cnt : Int) {b : Nat} (hb : b < 46 ∨ 53 < b) : (f_124 k st fi cnt sc).2 b = sc b := by
  unfold f_124
  rw [h, if_pos (by omega)]
  funext x
  simp [ax_u2, show b ≠ 46 by omega, show b ≠ 47 by omega, show b ≠ 48 by omega, show b ≠ 49 by omega, show b ≠ 50 by omega, show b ≠ 51 by omega, show b ≠ 52 by omega, show b ≠ 53 by omega]
theorem s66 {i : Nat} (h : sc 66 7 = ((i + 1 : Nat) : Int)) (h8 : i < 8192) : f_66 (i : Int) sc = sc 67 i ∧ g_66 (i : Int) sc := by
  unfold f_66 g_66
  rw [h, if_neg (by omega), if_neg (by omega), if_neg (by omega), Int.toNat_natCast]
  exact ⟨rfl, fun _ => trivial, fun _ => ⟨fun _ => trivial, fun _ => ⟨fun _ => trivial, fun _ => ⟨⟨by omega, by omega⟩, trivial⟩⟩⟩⟩
/-- a new node on top of what stands below: an operand has been read -/
theorem MKP2 {a1 N1 K1 q1 stn : Nat} (hE : EI T sc0 sm0 sn rp a0 N0 K0 base W O op sc sm a1 N1 K1 q1) (hS : STK T sc sm sn rp K1 base W O a0 N0 q b nl ll) (x : XF sc sm sc' sm' ll a nl K1 (base + q) (W + q) (O + b)) (ecB : EFc sc sc') (emB : EFm sm sm') (hu : CU T sc' a) (hm : sm' 84 18 = (a : Int)) (hf : sm' 84 6 = 0) (hND : ND T sc' sm' N K)
    (h7 : sc' 66 7 = ((base + q : Nat) : Int)) (h63 : sm' 84 63 = ((W + q : Nat) : Int)) (h67 : sm' 84 67 = (op : Int)) (hok : ∀ c n, 116 ≤ c → c ≤ 124 → n < N1 → sm' c n = sm c n) (fl : ∀ k, ll ≤ k → k < a → LF T sc' sm' k)
    (hC : MKC sc' sc2 N k st fi cnt wd nu (lev k)) (hM : MKM sm' sm2 N K (O + b) c k st lx nm) (hcnt : cnt = (c : Int)) (hstn : st = (stn : Int)) (hs1 : ll ≤ stn) (hs2 : stn < a) (hk0 : 0 ≤ k) (hk1 : k ≤ 21) (hA : AR k c) (hfi : fi = (if 0 < c then sm' 126 (O + b) else -1))
    (hch : ∀ i, i < c → ∃ x : Nat, sm' 126 (O + b + i) = (x : Int) ∧ x < N ∧ sc' 52 x = (if i + 1 < c then sm' 126 (O + b + (i + 1)) else -1)) (hV : NV T sc2 sm2 N) (sg : SEG T sc2 sm2 sn rp (K + c) ll a nl (N + 1))
    (hcn : CN sc2 ↔ CN sc ∧ ∀ n, N1 ≤ n → n < N + 1 → NOK T (sc0 37) sm2 n) (hnl : nl ≤ N) (hKN : K + c + O + b + 1 ≤ N + 1) (hB : T.tk (a - 1) ∈ opB) (i1 : K1 ≤ K) (i2 : N1 ≤ N) (i3 : a1 ≤ a) (h70 : sm' 84 70 = 0) :
    P2 T sc0 sm0 sn rp a0 N0 K0 base W O op sc2 sm2 a (N + 1) (K + c) q b nl ll := by
  have bd := STK.bd _ _ _ _ hS
  have hx := MK.xf hC hM ll a (base + q) (W + q)
  have xx : XF sc sm sc2 sm2 ll a nl K1 (base + q) (W + q) (O + b) := x.trans hx (Nat.le_refl _) (Nat.le_refl _) hnl i1 (Nat.le_refl _) (Nat.le_refl _) (Nat.le_refl _)
  obtain ⟨e1, e2, e3, e4, e5, e6, e7, e8, e9, e10, e11, e12, e13, e14, e15, e16, e17, e18, e19, e20, e21, e22, e23⟩ := id hE
  have ec : EFc sc sc2 := ecB.trans hC.ef
  have em : EFm sm sm2 := emB.trans hM.ef
  have nd : ND T sc2 sm2 (N + 1) (K + c) := hND.make hC hM hcnt rfl hstn (Nat.lt_of_lt_of_le hs2 hu.2.2) hk0 hk1 hA hfi hch hV
  obtain ⟨p1, p2, p3, p4, p5, p6, p7, p8, p9, p10, p11, p12, p13, p14, p15, p16, p17⟩ := hC
  obtain ⟨q1', q2, q3, q4, q5, q6, q7, q8, q9, q10, q11, q12, q13, q14, q15, q16, q17, q18, q19, q20⟩ := hM
  refine ⟨hE.gen (xx.mono (by omega) (Nat.le_refl _) (by omega) (by omega) (by omega) (by omega) (by omega)) ec em ?_ ?_ ?_ nd ?_ ?_ ?_ hcn ?_ (by omega) (by omega) i3, q3, ?_, ⟨by omega, ?_, ⟨stn, by rw [q14, hstn], hs1, hs2⟩, ?_, ?_, sg⟩, ?_, by omega, hB, by rw [q20 70 (by decide) (by decide) (by decide)]; exact h70⟩
  · unfold CU at *
    rw [p16 39 (by omega)]
    exact hu
  · rw [q20 18 (by decide) (by decide) (by decide)]; exact hm
  · rw [q20 6 (by decide) (by decide) (by decide)]; exact hf
  · rw [p15]; exact h7
  · rw [q20 63 (by decide) (by decide) (by decide)]; exact h63
  · rw [q20 67 (by decide) (by decide) (by decide)]; exact h67
  · intro c n y1 y2 y3
    rw [q16 c n y1 y2 (by omega)]
    exact hok c n y1 y2 y3
  · exact STK.monoK (by omega) _ _ _ _ (STK.xf (ec.1 37 (by omega)) (em.1 93 (by omega)) _ _ _ _ hS xx)
  · rw [q13]; omega
  · rw [show N + 1 - 1 = N by omega]; exact p7
  · refine Or.inl ⟨q15, fun k y1 y2 => (fl k y1 y2).congr (by rw [p16 45 (by omega)]) (by rw [q19 91 (by omega)]) (by rw [q19 92 (by omega)]) (by rw [q19 93 (by omega)])⟩
  · refine ⟨by rw [p9]; omega, by rw [p10, q14], by rw [p11, show N + 1 - 1 = N by omega, q4], by rw [p12, q15], fun _ => p13, fun p hp => ?_⟩
    rw [q15] at hp
    omega
theorem SEG.rows {l0 l1 n0 n1 : Nat} (h : SEG T sc sm sn rp K l0 l1 n0 n1) (h1 : ∀ c, 116 ≤ c → c ≤ 125 → sm' c = sm c) (h2 : sc' 48 = sc 48) (h3 : sc' 37 = sc 37) : SEG T sc' sm' sn rp K l0 l1 n0 n1 :=
  h.congr (fun c n x y _ _ => by rw [h1 c x (by omega)]) (fun n _ _ => by rw [h2]) h3 (fun j _ => by rw [h1 125 (by decide) (by decide)]) (Nat.le_refl _)
theorem OBR.rows {l0 l1 : Nat} {v : Int} (h : OBR T sc sm o l0 l1 v) (h0 : ∀ k, l0 ≤ k → k < l1 → sc' 45 k = sc 45 k) (h1 : ∀ k, l0 ≤ k → k < l1 → sm' 91 k = sm 91 k) (h2 : sm' 92 = sm 92) (h3 : sm' 93 = sm 93) (h4 : sm' 128 = sm 128) (h5 : sm' 132 = sm 132) : OBR T sc' sm' o l0 l1 v := by
  have fl : ∀ k, l0 ≤ k → k < l1 → LF T sc sm k → LF T sc' sm' k := fun k a b hl => hl.congr (h0 k a b) (h1 k a b) (by rw [h2]) (by rw [h3])
  have pb : ∀ k, l0 ≤ k → k < l1 → PB T sc sm k v → PB T sc' sm' k v := fun k a b hl => hl.congr (h0 k a b) (h1 k a b) (by rw [h2]) (by rw [h3])
  rcases h with ⟨x1, x2⟩ | ⟨p', c', x1, x2, x3, x4, x5, x6, x7, x8⟩
  · exact Or.inl ⟨by rw [h4]; exact x1, fun k y1 y2 => fl k y1 y2 (x2 k y1 y2)⟩
  · exact Or.inr ⟨p', c', by rw [h4]; exact x1, by rw [h5]; exact x2, x3, x4, x5, pb _ x3 (by omega) x6, pb _ (by omega) x5 x7, fun k y1 y2 y3 y4 => fl k y1 y2 (x8 k y1 y2 y3 y4)⟩
/-- one prefix operator -/
theorem red_pre {p : Nat} (hT : TWF T) (h : P2 T sc0 sm0 sn rp a0 N0 K0 base W O op sc sm a N K (q + 1) b nl ll)
    (b1 : sc 67 (base + q) = 8 ∨ sc 67 (base + q) = 9) (b2 : sm 129 (W + q) = sc 67 (base + q)) (b3 : sc 69 (base + q) = (p : Int)) (b4 : sm 130 (W + q) = (p : Int)) (b5 : ll = p + 1) (b6 : LF T sc sm p) (b7 : SEG T sc sm sn rp K p (p + 1) nl nl) (b8 : STK T sc sm sn rp K base W O a0 N0 q b nl p) :
    ∃ sc' sm' : Sg, (∀ F l, l ≤ 8 → j_58_0 (F + 1) (base : Int) l sc = j_58_0 F (base : Int) l sc') ∧ (∀ F l, l ≤ 8 → j_269_0 (F + 1) l sm = j_269_0 F l sm') ∧ sc' 67 = sc 67 ∧ P2 T sc0 sm0 sn rp a0 N0 K0 base W O op sc' sm' a (N + 1) (K + 1) q b nl p := by
  obtain ⟨hE, h59, hS, hO, hP, hK, hB, h70⟩ := h
  obtain ⟨e1, e2, e3, e4, e5, e6, e7, e8, e9, e10, e11, e12, e13, e14, e15, e16, e17, e18, e19, e20, e21, e22, e23⟩ := id hE
  obtain ⟨t1, t2, t3, t4, t5, t6⟩ := hP
  obtain ⟨o1, o2, ⟨st, o3, o4, o5⟩, o6, o7, o8⟩ := id hO
  have bd := STK.bd _ _ _ _ b8
  have bs := o8.2.2.1
  have hz := e3.2.2
  have h8 := hT.1
  have hk : 0 ≤ sc 67 (base + q) ∧ sc 67 (base + q) ≤ 21 ∧ lev (sc 67 (base + q)) = 8 := by
    rcases b1 with e | e <;> rw [e] <;> decide
  obtain ⟨c0, q0, nr1, nr2, nr3, nr4, nr5, nr6, nr7, _⟩ := e6.2.2.2 (N - 1) (by omega)
  -- the class
  have hw : ax_w32 (sc 66 7 - 1) = ((base + q : Nat) : Int) := by rw [e7, w32_id (by omega) (by omega)]; omega
  have s6 := s66 (sc := sc) (i := base + q) (by rw [e7]; omega) (by omega)
  have hcA : CC T (ax_u2 sc 66 7 ((base + q : Nat) : Int)) := e1.row (by simp [ax_u2]) (by funext x; simp [ax_u2]) (by funext x; simp [ax_u2]) (by funext x; simp [ax_u2]) (by simp [ax_u2]) (by funext x; simp [ax_u2])
  have oA : OBR T (ax_u2 sc 66 7 ((base + q : Nat) : Int)) sm (O + b) ll a 2 := o7.rows (fun k _ _ => by simp [ax_u2]) (fun _ _ _ => rfl) rfl rfl rfl rfl
  obtain ⟨sB, w1, w2, w3, w4⟩ := want_c (w := 8) hcA oA hz h8 (L := lev (sm 116 (N - 1))) (by simpa [ax_u2] using t3) (by simpa [ax_u2] using t4) (fun x => by simpa [ax_u2] using t5 x) (fun p x => by simpa [ax_u2] using t6 p x)
  have rB : ∀ c, c ≠ 45 → c ≠ 66 → sB c = sc c := fun c x y => by rw [w4 c x]; exact u2_row _ _ _ y
  have cB : ∀ j, j ≠ 7 → sB 66 j = sc 66 j := fun j x => by rw [w4 66 (by decide)]; exact u2_col _ _ _ x
  have sB7 : sB 66 7 = ((base + q : Nat) : Int) := by rw [w4 66 (by decide)]; exact u2_same _ _ _ _
  have sB46 : sB 46 7 = (N : Int) := by rw [rB 46 (by decide) (by decide)]; exact e6.1
  obtain ⟨g1, g2, g3, g4⟩ := c124 sB46 (by omega) (sc 67 (base + q)) (p : Int) ((N : Int) - 1) 1 8
  -- the reference
  have hwm : ax_w32 (sm 84 63 - 1) = ((W + q : Nat) : Int) := by rw [e8, w32_id (by omega) (by omega)]; omega
  have hom : ax_w32 (sm 84 59 - 1) = ((O + b : Nat) : Int) := by rw [h59, w32_id (by omega) (by omega)]; omega
  obtain ⟨mB, u1, u2, u3, u4⟩ := use_m (T := T) (sc := sB) (sm := ax_u2 sm 84 63 ((W + q : Nat) : Int)) (o := O + b) (l0 := ll) (l1 := a) (w := 8) (n := N - 1) (by rw [show (ax_u2 sm 84 63 ((W + q : Nat) : Int)) 116 (N - 1) = sm 116 (N - 1) by simp [ax_u2]]; exact w2.rows (fun _ _ _ => rfl) (fun k _ _ => by simp [ax_u2]) (by funext x; simp [ax_u2]) (by funext x; simp [ax_u2]) (by funext x; simp [ax_u2]) (by funext x; simp [ax_u2])) (by simp [ax_u2]; omega) (by simpa [ax_u2] using nr6) (by simpa [ax_u2] using nr7) (by omega) (by omega) (by omega)
  have rM : ∀ c, c ≠ 91 → c ≠ 84 → mB c = sm c := fun c x y => by rw [u4 c x]; exact u2_row _ _ _ y
  have cM : ∀ j, j ≠ 63 → mB 84 j = sm 84 j := fun j x => by rw [u4 84 (by decide)]; exact u2_col _ _ _ x
  have mB63 : mB 84 63 = ((W + q : Nat) : Int) := by rw [u4 84 (by decide)]; exact u2_same _ _ _ _
  obtain ⟨mD, v1, v2⟩ := m266 (s := mB) (N := N) (K := K) (o := O + b) (c := 1) (by rw [cM 47 (by decide)]; exact e6.2.1) (by rw [cM 57 (by decide)]; exact e6.2.2.1) (by rw [cM 59 (by decide)]; exact h59) (by omega) (by omega) (by omega) (by omega) (sc 67 (base + q)) (p : Int) (p : Int) (-1)
  refine ⟨f_64 (N : Int) (p : Int) 8 (f_124 (sc 67 (base + q)) (p : Int) ((N : Int) - 1) 1 sB).2, mD, ?_, ?_, by rw [g3.2.2.2.2.2.2.2.2.2.2.2.2.2.2.2.1 67 (by omega)]; exact rB 67 (by decide) (by decide), ?_⟩
  · intro F l hl
    rw [j_58_0, if_neg (by omega), if_neg (by omega), hw, gd_pos s6.2, s6.1, gd_pos (f57 e1 hk.1 hk.2.1).2, (f57 e1 hk.1 hk.2.1).1, if_neg (by omega), gd_pos s6.2, gd_pos (f57 hcA hk.1 hk.2.1).2, (f57 hcA hk.1 hk.2.1).1, if_neg (by simp [hk.2.2]), w1]
    simp only [Option.bind_some]
    rw [gd_pos (by omega), sB7, Int.toNat_natCast, rB 69 (by decide) (by decide), b3, cB 8 (by decide), t1, gd_pos g1, gd_pos (by rw [c124i sB46 (by omega) _ _ _ _ (by omega), sB7]; omega), g2, c124i sB46 (by omega) _ _ _ _ (by omega), c124i sB46 (by omega) _ _ _ _ (by omega), sB7, Int.toNat_natCast, rB 69 (by decide) (by decide), b3]
    rfl
  · intro F l hl
    have lm : f_268 (sm 129 (W + q)) sm = 8 := by rw [b2, f268 _ hk.1 hk.2.1]; exact hk.2.2
    have body : j_269_73 (j_269_0 F) l (sc 67 (base + q)) (ax_u2 sm 84 63 ((W + q : Nat) : Int)) = j_269_0 F l mD := by
      unfold j_269_73
      have : (ax_u2 sm 84 63 ((W + q : Nat) : Int)) 84 59 = sm 84 59 := by simp [ax_u2]
      rw [this, hom, u1]
      simp only [Option.bind_some]
      rw [gd_pos (by omega), gd_pos (by omega), mB63, Int.toNat_natCast, rM 130 (by decide) (by decide), b4]
      have v1' : f_266 (sc 67 (base + q)) (p : Int) (p : Int) (-1) 1 mB = some mD := v1
      rw [v1']
      rfl
    rw [j_269_0, if_neg (by omega), hwm, gd_pos (by omega), Int.toNat_natCast, if_neg (by omega), gd_pos (by omega), lm, if_neg (by omega), gd_pos (by omega), b2]
    rcases b1 with e | e
    · rw [if_pos e, body]
    · rw [if_neg (by rw [e]; decide), if_neg (by simp [e]), body]
  · have ndB : ND T sB mB N K := e6.congr (by rw [rB 46 (by decide) (by decide)]) (cM 47 (by decide)) (cM 57 (by decide)) (fun c n x y _ => by rw [rB c (by omega) (by omega)]) (fun c n x y _ => by rw [rM c (by omega) (by omega)]) (fun j _ => by rw [rM 125 (by decide) (by decide)])
    have xB : XF sc sm sB mB p a nl K (base + q) (W + q) (O + b) := ⟨fun k x => ⟨by rw [w3 k (by omega)]; simp [ax_u2], by rw [u3 k (by omega)]; simp [ax_u2], by rw [rM 92 (by decide) (by decide)]⟩, fun c n x y _ => by rw [rB c (by omega) (by omega)], fun c n x y _ => by rw [rM c (by omega) (by omega)], fun j _ => by rw [rM 125 (by decide) (by decide)], fun c n x y _ => by rw [rB c (by omega) (by omega)], fun c n x y _ => by rw [rM c (by omega) (by omega)], fun c n x y _ => by rw [rM c (by omega) (by omega)], fun k _ => by rw [rM 132 (by decide) (by decide)]⟩
    have ecB : EFc sc sB := ⟨fun c x => rB c (by omega) (by omega), fun j _ _ => by rw [rB 39 (by decide) (by decide)], fun j _ => by rw [rB 30 (by decide) (by decide)]⟩
    have emB : EFm sm mB := ⟨fun c x => rM c (by omega) (by omega), fun j x => cM j (by omega)⟩
    have sg : SEG T sc sm sn rp K p a nl N := b7.merge (by rw [← b5]; exact o8)
    have sgB : SEG T sB mB sn rp K p a nl N := sg.rows (fun c x y => rM c (by omega) (by omega)) (rB 48 (by decide) (by decide)) (rB 37 (by decide) (by decide))
    have kO : mB 126 (O + b) = (N : Int) - 1 := by rw [rM 126 (by decide) (by decide)]; exact o2
    have hNV : NV T (f_64 (N : Int) (p : Int) 8 (f_124 (sc 67 (base + q)) (p : Int) ((N : Int) - 1) 1 sB).2) mD N := by
      unfold NV
      rw [v2.2.2.2.1, g3.2.2.1, g3.2.2.2.1]
      rcases b1 with e | e <;> rw [e] <;> simp
    have nk : NOK T (sc0 37) mD N := by
      unfold NOK
      rw [v2.2.2.2.1]
      rcases b1 with e | e <;> rw [e] <;> simp
    refine MKP2 hE b8 xB ecB emB ?_ ?_ ?_ ndB sB7 mB63 ?_ ?_ ?_ (by rw [hk.2.2]; exact g3) v2 rfl rfl (Nat.le_refl _) (by omega) hk.1 hk.2.1 ?_ ?_ ?_ hNV ?_ ?_ (by omega) (by omega) hB (Nat.le_refl _) (Nat.le_refl _) (Nat.le_refl _) (by rw [cM 70 (by decide)]; exact h70)
    · unfold CU at *
      rw [rB 39 (by decide) (by decide)]
      exact e3
    · rw [cM 18 (by decide)]; exact e4
    · rw [cM 6 (by decide)]; exact e5
    · rw [cM 67 (by decide)]; exact e9
    · intro c n y1 y2 _
      rw [rM c (by omega) (by omega)]
    · intro k y1 y2
      by_cases d : k = p
      · subst d
        exact b6.congr (by rw [w3 k (by omega)]; simp [ax_u2]) (by rw [u3 k (by omega)]; simp [ax_u2]) (by rw [rM 92 (by decide) (by decide)]) (by rw [rM 93 (by decide) (by decide)])
      · exact u2 k (by omega) y2
    · rcases b1 with e | e <;> rw [e] <;> simp [AR]
    · rw [if_pos (by decide), kO]
    · intro i hi
      have : i = 0 := by omega
      subst this
      refine ⟨N - 1, by rw [Nat.add_zero, kO]; omega, by omega, ?_⟩
      rw [if_neg (by omega), rB 52 (by decide) (by decide)]
      exact o6
    · refine sgB.addn v2 (fun n hn => g3.2.2.2.2.2.2.2.2.2.2.2.2.2.1 48 n (by decide) (by decide) (by omega)) (g3.2.2.2.2.2.2.2.2.2.2.2.2.2.2.2.1 37 (by omega)) (by rcases b1 with e | e <;> rw [e] <;> decide) (by omega) (fun i hi => ?_) (by rw [cM 68 (by decide)]; exact e10) (by rw [cM 46 (by decide)]; exact e11) (fun _ y => by rcases b1 with e | e <;> rw [e] at y <;> omega)
      rw [show i = 0 by omega, Nat.add_zero, kO]
      omega
    · have : CN (f_64 (N : Int) (p : Int) 8 (f_124 (sc 67 (base + q)) (p : Int) ((N : Int) - 1) 1 sB).2) ↔ CN sc := by
        unfold CN
        rw [g4, rB 30 (by decide) (by decide)]
      rw [this]
      exact ⟨fun h => ⟨h, fun n y1 y2 => by rw [show n = N by omega]; exact nk⟩, fun h => h.1⟩
end RD
