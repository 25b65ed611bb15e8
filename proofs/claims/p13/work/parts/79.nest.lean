/-! OPERANDS with others in them: going in, coming out; elements. -/
/-- the reference, closing -/
noncomputable def RC (l2 : Int) (F G : Nat) (sm : Sg) : Option (Int × Sg) := (j_270_0 G sm).bind fun q3 => j_257_105 (j_257_25 F) FU l2 ((if ¬ q3.1 = 1 then 0 else 1) : Int) ((if ¬ q3.1 = 2 then 0 else 1) : Int) q3.2
/-- how an expression may come out -/
def EOUT (T : TT) (sc sm : Sg) (sn rp : Int) (a N K base W O op : Nat) (l2 : Int) (rc : Option (Sum Sg (Nat × Sg))) (rm : Option (Int × Sg)) : Prop :=
  (∃ (sc' sm' : Sg) (a' N' K' : Nat), rc = some (.inl sc') ∧ a < a' ∧ P2 T sc sm sn rp a N K base W O op sc' sm' a' N' K' 0 0 N a ∧ T.tk a ∈ opS ∧
    ((∃ F' G' : Nat, rm = RC l2 F' G' sm' ∧ T.z + 1 ≤ F' + a' ∧ 1000000 + op ≤ G' + 80 ∧ bin (T.tk a') = -1 ∧ T.tk a' ≠ 63) ∨ ((T.tk a' = 60 ∨ T.tk a' = 128 ∨ T.tk a' = 129) ∧ ∃ mF : Sg, rm = some (0, mF) ∧ BDm sm mF))) ∨
  (∃ (x : Nat) (sc' mF : Sg), rc = some (.inr (x, sc')) ∧ (x = 14 ∨ x = 15) ∧ BDc T sc sc' ∧ rm = some (0, mF) ∧ BDm sm mF)
section NEST
variable {T : TT} {sc0 sm0 sc sm sc1 sm1 sc' sm' sB mB : Sg} {sn rp : Int} {a0 N0 K0 base W O op a a1 a' a2 N N' K K' q b o : Nat}
/-- going in -/
theorem NEST.pre (hT : TWF T) (hE : EI T sc0 sm0 sn rp a0 N0 K0 base W O op sc sm a N K q) (h59 : sm 84 59 = (o : Int)) (hKo : K + o ≤ N) (hbd : N + base + q ≤ a) (hWq : W + q + 1 ≤ a1) (ha : a ≤ a1) (h1 : 1 ≤ a1)
    (rC : ∀ c, c ≠ 39 → c ≠ 45 → sc1 c = sc c) (r39 : ∀ j, j ≠ 10 → j ≠ 11 → sc1 39 j = sc 39 j) (r45 : ∀ k, k < a ∨ a1 ≤ k → sc1 45 k = sc 45 k) (hu : CU T sc1 a1)
    (rM : ∀ c, ¬ (c = 84 ∨ c = 91 ∨ c = 92 ∨ 129 ≤ c ∧ c ≤ 131) → sm1 c = sm c) (r91 : ∀ k, k < a ∨ a1 ≤ k → sm1 91 k = sm 91 k ∧ sm1 92 k = sm 92 k) (iM : ∀ c i, 129 ≤ c → c ≤ 131 → i ≠ W + q → sm1 c i = sm c i) (h100 : 100 ≤ sm1 129 (W + q)) (cM : ∀ j, j ≠ 18 → j ≠ 63 → j ≠ 67 → j ≠ 70 → sm1 84 j = sm 84 j)
    (hm : sm1 84 18 = (a1 : Int)) (h63 : sm1 84 63 = ((W + q + 1 : Nat) : Int)) (h67 : sm1 84 67 = ((op + 1 : Nat) : Int)) (hA : T.tk (a1 - 1) ∈ opA) :
    EPRE T sc1 sm1 sn rp a1 N K (base + q) (W + q + 1) o (op + 1) ∧ XF sc sm sc1 sm1 a a1 N K (base + q) (W + q) o ∧ EFc sc sc1 ∧ EFm sm sm1 := by
  obtain ⟨e1, e2, e3, e4, e5, e6, e7, e8, e9, e10, e11, e12, e13, e14, e15, e16, e17, e18, e19, e20, e21, e22, e23⟩ := id hE
  have ec : EFc sc sc1 := ⟨fun c x => rC c (by omega) (by omega), r39, fun j _ => by rw [rC 30 (by decide) (by decide)]⟩
  have em : EFm sm sm1 := ⟨fun c x => rM c (by omega), fun j x => cM j (by omega) (by omega) (by omega) (by omega)⟩
  refine ⟨⟨ec.cc e1, em.mc e2, hu, hm, by rw [cM 6 (by decide) (by decide) (by decide) (by decide)]; exact e5, ?_, by rw [rC 66 (by decide) (by decide)]; exact e7, h63, by rw [cM 59 (by decide) (by decide) (by decide) (by decide)]; exact h59, h67, by rw [cM 68 (by decide) (by decide) (by decide) (by decide)]; exact e10, by rw [cM 46 (by decide) (by decide) (by decide) (by decide)]; exact e11, ?_, Or.inr (by rw [show W + q + 1 - 1 = W + q by omega]; exact h100), by omega, hWq, hKo, h1, hA⟩, ?_, ec, em⟩
  · exact e6.congr (by rw [rC 46 (by decide) (by decide)]) (cM 47 (by decide) (by decide) (by decide) (by decide)) (cM 57 (by decide) (by decide) (by decide) (by decide)) (fun c n x y _ => by rw [rC c (by omega) (by omega)]) (fun c n x y _ => by rw [rM c (by omega)]) (fun j _ => by rw [rM 125 (by omega)])
  · intro k x y
    obtain ⟨f1, f2, f3, f4⟩ := e12 k (by omega) y
    exact ⟨by rw [r45 k (by omega)]; exact f1, by rw [(r91 k (by omega)).1]; exact f2, by rw [(r91 k (by omega)).2]; exact f3, by rw [rM 93 (by omega)]; exact f4⟩
  · exact ⟨fun k x => ⟨r45 k x, (r91 k x).1, (r91 k x).2⟩, fun c n x y _ => by rw [rC c (by omega) (by omega)], fun c n x y _ => by rw [rM c (by omega)], fun j _ => by rw [rM 125 (by omega)], fun c n x y _ => by rw [rC c (by omega) (by omega)], fun c n x y _ => by rw [rM c (by omega)], fun c n x y _ => iM c n x y (by omega), fun k _ => by rw [rM 132 (by omega)]⟩
/-- coming out -/
theorem NEST.mid (hx : XF sc sm sc1 sm1 a a1 N K (base + q) (W + q) o) (ec : EFc sc sc1) (em : EFm sm sm1) (ha : a ≤ a1) (hP : P2 T sc1 sm1 sn rp a1 N K (base + q) (W + q + 1) o (op + 1) sc' sm' a' N' K' 0 0 N a1) (ha2 : a' ≤ a2)
    (rC : ∀ c, c ≠ 39 → c ≠ 30 → c ≠ 45 → c ≠ 66 → sB c = sc' c) (r39 : ∀ j, j ≠ 10 → j ≠ 11 → sB 39 j = sc' 39 j) (r30 : ∀ j, j < 4 ∨ 7 < j → sB 30 j = sc' 30 j) (r45 : ∀ k, k < a ∨ a2 ≤ k → sB 45 k = sc' 45 k)
    (rM : ∀ c, ¬ (c = 84 ∨ c = 91 ∨ c = 92 ∨ 126 ≤ c ∧ c ≤ 128 ∨ c = 132 ∨ 129 ≤ c ∧ c ≤ 131) → mB c = sm' c) (r91 : ∀ k, k < a ∨ a2 ≤ k → mB 91 k = sm' 91 k ∧ mB 92 k = sm' 92 k) (r126 : ∀ c i, 126 ≤ c → c ≤ 128 → i < o → mB c i = sm' c i) (r129 : ∀ c i, 129 ≤ c → c ≤ 131 → i < W + q → mB c i = sm' c i) (r132 : ∀ k, k < a → mB 132 k = sm' 132 k) (cM : ∀ j, j ≠ 18 → j ≠ 63 → j ≠ 67 → mB 84 j = sm' 84 j) :
    XF sc sm sB mB a a2 N K (base + q) (W + q) o ∧ EFc sc sB ∧ EFm sm mB ∧ ND T sB mB N' K' ∧ (∀ c n, 116 ≤ c → c ≤ 124 → n < N → mB c n = sm c n) := by
  obtain ⟨e1, e2, e3, e4, e5, e6, e7, e8, e9, e10, e11, e12, e13, e14, e15, e16, e17, e18, e19, e20, e21, e22, e23⟩ := id hP.1
  have x2 : XF sc' sm' sB mB a a2 N K (base + q) (W + q) o := ⟨fun k x => ⟨r45 k x, (r91 k x).1, (r91 k x).2⟩, fun c n x y _ => by rw [rC c (by omega) (by omega) (by omega) (by omega)], fun c n x y _ => by rw [rM c (by omega)], fun j _ => by rw [rM 125 (by omega)], fun c n x y _ => by rw [rC c (by omega) (by omega) (by omega) (by omega)], r126, r129, r132⟩
  have ecB : EFc sc' sB := ⟨fun c x => rC c (by omega) (by omega) (by omega) (by omega), r39, r30⟩
  have emB : EFm sm' mB := ⟨fun c x => rM c (by omega), fun j x => cM j (by omega) (by omega) (by omega)⟩
  have x12 := hx.trans e13 ha e22 (Nat.le_refl _) (Nat.le_refl _) (Nat.le_refl _) (by omega) (Nat.le_refl _)
  have x13 := x12.trans x2 (Nat.le_refl _) ha2 (Nat.le_refl _) (Nat.le_refl _) (Nat.le_refl _) (Nat.le_refl _) (Nat.le_refl _)
  refine ⟨x13, (ec.trans e14).trans ecB, (em.trans e15).trans emB, ?_, fun c n x y w => ?_⟩
  · exact e6.congr (by rw [rC 46 (by decide) (by decide) (by decide) (by decide)]) (cM 47 (by decide) (by decide) (by decide)) (cM 57 (by decide) (by decide) (by decide)) (fun c n x y _ => by rw [rC c (by omega) (by omega) (by omega) (by omega)]) (fun c n x y _ => by rw [rM c (by omega)]) (fun j _ => by rw [rM 125 (by omega)])
  · exact x13.2.2.1 c n x y w
/-- what the reference does when it closes: what is left behind is closed first -/
theorem RC.use (hT : TWF T) (hP : P2 T sc1 sm1 sn rp a1 N K base W O op sc' sm' a' N' K' 0 0 N a1) (hw : sm' 129 (W - 1) ≠ 107) (hW : 1 ≤ W) (G : Nat) (hG : 1 ≤ G) :
    ∃ mU : Sg, j_270_0 G sm' = j_270_85 sm' ∧ f_265 (ax_w32 (sm' 84 59 - 1)) 0 sm' = some mU ∧ (∀ k, a1 ≤ k → k < a' → LF T sc' mU k) ∧ (∀ k, k < a1 ∨ a' ≤ k → mU 91 k = sm' 91 k) ∧ (∀ c, c ≠ 91 → mU c = sm' c) := by
  obtain ⟨hE, h59, hS, hO, hTop, hK, hB, h70⟩ := hP
  obtain ⟨e1, e2, e3, e4, e5, e6, e7, e8, e9, e10, e11, e12, e13, e14, e15, e16, e17, e18, e19, e20, e21, e22, e23⟩ := id hE
  obtain ⟨o1, o2, _, o6, o7, o8⟩ := id hO
  have h8 := hT.1
  have hz := e3.2.2
  have bs := o8.2.2.1
  obtain ⟨cx, qx, nx1, nx2, nx3, nx4, nx5, nr6, nr7, _⟩ := e6.2.2.2 (N' - 1) (by omega)
  have hlv := (lev_b _ nr6 nr7).1
  obtain ⟨mU, u1, u2, u3, u4⟩ := use_m (T := T) (sc := sc') (sm := sm') (o := O + 0) (l0 := a1) (l1 := a') (w := 0) (n := N' - 1) (by rw [if_pos hlv]; exact o7) (by rw [o2]; omega) nr6 nr7 (by omega) (by omega) (by omega)
  refine ⟨mU, ?_, ?_, u2, u3, u4⟩
  · obtain ⟨G, rfl⟩ : ∃ k, G = k + 1 := ⟨G - 1, by omega⟩
    have hwm : ax_w32 (sm' 84 63 - 1) = ((W - 1 : Nat) : Int) := by rw [e8, w32_id (by omega) (by omega)]; omega
    rw [j_270_0, if_neg (by omega), hwm, gd_pos (by omega), Int.toNat_natCast, if_pos hw]
  · rw [h59, w32_id (by omega) (by omega), show ((O + 0 + 1 : Nat) : Int) - 1 = ((O + 0 : Nat) : Int) by omega]
    exact u1
end NEST
