/-! AN EXPRESSION of a statement or an action. -/
/-- how many names are bound stays within bounds -/
def W8 (s s' : Sg) : Prop := 0 ≤ s 31 8 ∧ s 31 8 ≤ 4112 → 0 ≤ s' 31 8 ∧ s' 31 8 ≤ 4112
theorem W8.same {s s' : Sg} (h : s' 31 = s 31) : W8 s s' := fun y => by rw [h]; exact y
theorem W8.of {s s' : Sg} {B : Nat} (h : s' 31 8 = (B : Int)) (hB : B ≤ 4112) : W8 s s' := fun _ => by omega
/-- rows that reading may change, on each side -/
def SFc (s s' : Sg) : Prop := (∀ c, ¬ (c = 30 ∨ c = 31 ∨ 36 ≤ c ∧ c ≤ 39 ∨ 45 ≤ c ∧ c ≤ 72) → s' c = s c) ∧ (∀ j, j ≠ 10 → j ≠ 11 → s' 39 j = s 39 j) ∧ (∀ j, j < 4 ∨ 7 < j → s' 30 j = s 30 j) ∧ (∀ j, j ≠ 8 → s' 31 j = s 31 j) ∧ W8 s s'
def SFm (s s' : Sg) : Prop := (∀ c, ¬ (c = 84 ∨ 91 ≤ c ∧ c ≤ 132) → s' c = s c) ∧ (∀ j, j < 6 ∨ 7 < j ∧ j < 18 ∨ 70 < j → s' 84 j = s 84 j)
/-- before an expression, after it -/
def TPRE (T : TT) (sc sm : Sg) (a N K : Nat) : Prop := CC T sc ∧ MC T sm ∧ CU T sc a ∧ sm 84 18 = (a : Int) ∧ sm 84 6 = 0 ∧ ND T sc sm N K ∧ sc 66 7 = 0 ∧ (∀ k, a ≤ k → k < T.z → FRS T sc sm k) ∧ N ≤ a ∧ K ≤ N ∧ 1 ≤ a ∧ T.tk (a - 1) ∈ opA
/-- what an expression may change of the reference -/
def EFt (s s' : Sg) : Prop := (∀ c, ¬ (c = 84 ∨ c = 91 ∨ c = 92 ∨ 116 ≤ c ∧ c ≤ 121 ∨ 123 ≤ c ∧ c ≤ 132) → s' c = s c) ∧ (∀ j, j < 6 ∨ 7 < j ∧ j < 18 ∨ 18 < j ∧ j < 47 ∨ 47 < j ∧ j < 57 ∨ j = 58 ∨ 59 < j ∧ j < 63 ∨ 63 < j ∧ j < 67 ∨ j = 69 ∨ 70 < j → s' 84 j = s 84 j)
def TPOST (T : TT) (sc sm : Sg) (sn : Int) (a N K : Nat) (sc' sm' : Sg) (a' N' K' : Nat) : Prop :=
  CC T sc' ∧ MC T sm' ∧ CU T sc' a' ∧ sm' 84 18 = (a' : Int) ∧ sm' 84 6 = 0 ∧ ND T sc' sm' N' K' ∧ sc' 66 7 = 0 ∧ (∀ k, a' ≤ k → k < T.z → FRS T sc' sm' k) ∧ XF sc sm sc' sm' a a' N K 0 0 0 ∧ EFc sc sc' ∧ EFt sm sm' ∧ (CN sc' ↔ CN sc ∧ ∀ n, N ≤ n → n < N' → NOK T (sc 37) sm' n) ∧
  (∀ k, a ≤ k → k < a' → LF T sc' sm' k) ∧ SEG T sc' sm' sn (sm 84 46) K' a a' N N' ∧ sc' 66 8 = (N' : Int) - 1 ∧ N < N' ∧ K' ≤ N' ∧ K ≤ K' ∧ a < a' ∧ T.tk a ∈ opS ∧ T.tk (a' - 1) ∈ opB
section TOP
variable {T : TT} {sc sm sc' sm' s s' s2 : Sg} {sn rp : Int} {a a' N N' K K' : Nat}
theorem SFc.refl (s : Sg) : SFc s s := ⟨fun _ _ => rfl, fun _ _ _ => rfl, fun _ _ => rfl, fun _ _ => rfl, fun y => y⟩
theorem SFm.refl (s : Sg) : SFm s s := ⟨fun _ _ => rfl, fun _ _ => rfl⟩
theorem SFc.trans (h : SFc s s') (k : SFc s' s2) : SFc s s2 := ⟨fun c x => (k.1 c x).trans (h.1 c x), fun j x y => (k.2.1 j x y).trans (h.2.1 j x y), fun j x => (k.2.2.1 j x).trans (h.2.2.1 j x), fun j x => (k.2.2.2.1 j x).trans (h.2.2.2.1 j x), fun y => k.2.2.2.2 (h.2.2.2.2 y)⟩
theorem SFm.trans (h : SFm s s') (k : SFm s' s2) : SFm s s2 := ⟨fun c x => (k.1 c x).trans (h.1 c x), fun j x => (k.2 j x).trans (h.2 j x)⟩
theorem EFc.sf (h : EFc s s') : SFc s s' := ⟨fun c x => h.1 c (by omega), h.2.1, h.2.2, fun j _ => by rw [h.1 31 (by omega)], W8.same (h.1 31 (by omega))⟩
theorem EFm.sf (h : EFm s s') : SFm s s' := ⟨fun c x => h.1 c (by omega), fun j x => h.2 j (by omega)⟩
theorem EFt.sf (h : EFt s s') : SFm s s' := ⟨fun c x => h.1 c (by omega), fun j x => h.2 j (by omega)⟩
theorem EFm.ft (h : EFm s s') : EFt s s' := ⟨h.1, fun j x => h.2 j (by omega)⟩
theorem EFt.trans (h : EFt s s') (k : EFt s' s2) : EFt s s2 := ⟨fun c x => (k.1 c x).trans (h.1 c x), fun j x => (k.2 j x).trans (h.2 j x)⟩
theorem SFc.cc (h : SFc sc sc') (k : CC T sc) : CC T sc' := k.row (h.2.1 9 (by decide) (by decide)) (h.1 41 (by omega)) (h.1 42 (by omega)) (h.1 44 (by omega)) (h.2.2.2.1 7 (by decide)) (h.1 1 (by omega))
theorem SFm.mc (h : SFm sm sm') (k : MC T sm) : MC T sm' := k.row (h.2 11 (by omega)) (h.1 88 (by omega))
theorem top_sim {d : Nat} (hT : TWF T) (h : TPRE T sc sm a N K) (hd : d ≤ 80) (sn : Int) :
    (∃ (sc' sm' : Sg) (a' N' K' : Nat), f_45 100 (d : Int) sc = some (.inl sc') ∧ TPOST T sc sm sn a N K sc' sm' a' N' K' ∧ (f_257 sn (d : Int) sm = some ((N' : Int) - 1, sm') ∨ ((T.tk a' = 60 ∨ T.tk a' = 128 ∨ T.tk a' = 129) ∧ ∃ mF : Sg, f_257 sn (d : Int) sm = some (0, mF) ∧ EFt sm mF ∧ 0 < mF 84 6))) ∨
    (∃ (x : Nat) (sc' mF : Sg), f_45 100 (d : Int) sc = some (.inr (x, sc')) ∧ (x = 14 ∨ x = 15) ∧ BDc T sc sc' ∧ f_257 sn (d : Int) sm = some (0, mF) ∧ EFt sm mF ∧ 0 < mF 84 6) := by
  obtain ⟨t1, t2, t3, t4, t5, t6, t7, t8, t9, t10, t11, t12⟩ := h
  have h8 := hT.1
  have hz := t3.2.2
  obtain ⟨m0, hm0⟩ : ∃ m0 : Sg, m0 = ax_u2 (ax_u2 (ax_u2 (ax_u2 sm 84 59 0) 84 63 0) 84 67 0) 84 68 sn := ⟨_, rfl⟩
  have r0 : ∀ c, c ≠ 84 → m0 c = sm c := fun c x => by rw [hm0, u2_row _ _ _ x, u2_row _ _ _ x, u2_row _ _ _ x, u2_row _ _ _ x]
  have c0 : ∀ j, j ≠ 59 → j ≠ 63 → j ≠ 67 → j ≠ 68 → m0 84 j = sm 84 j := fun j x y z w => by rw [hm0, u2_col _ _ _ w, u2_col _ _ _ z, u2_col _ _ _ y, u2_col _ _ _ x]
  have ef0 : EFt sm m0 := ⟨fun c x => r0 c (by omega), fun j x => c0 j (by omega) (by omega) (by omega) (by omega)⟩
  have f257 : f_257 sn (d : Int) sm = j_257_25 FU (d : Int) 1 0 m0 := by rw [hm0]; rfl
  have hp : EPRE T sc m0 sn (sm 84 46) a N K 0 0 0 0 := by
    refine ⟨t1, t2.row (c0 11 (by decide) (by decide) (by decide) (by decide)) (r0 88 (by decide)), t3, by rw [c0 18 (by decide) (by decide) (by decide) (by decide)]; exact t4, by rw [c0 6 (by decide) (by decide) (by decide) (by decide)]; exact t5, ?_, t7, by rw [hm0]; simp [ax_u2], by rw [hm0]; simp [ax_u2], by rw [hm0]; simp [ax_u2], by rw [hm0]; simp [ax_u2], c0 46 (by decide) (by decide) (by decide) (by decide), ?_, Or.inl rfl, by omega, by omega, by omega, t11, t12⟩
    · exact t6.congr rfl (c0 47 (by decide) (by decide) (by decide) (by decide)) (c0 57 (by decide) (by decide) (by decide) (by decide)) (fun _ _ _ _ _ => rfl) (fun c n x y _ => by rw [r0 c (by omega)]) (fun j _ => by rw [r0 125 (by decide)])
    · intro k x y
      obtain ⟨f1, f2, f3, f4⟩ := t8 k x y
      exact ⟨f1, by rw [r0 91 (by decide)]; exact f2, by rw [r0 92 (by decide)]; exact f3, by rw [r0 93 (by decide)]; exact f4⟩
  rw [f257]
  rcases expr_sim (l := d) hT 100 d (by omega) hd sc m0 a N K 0 0 0 0 FU hp (by omega) (by unfold FU; omega) with ⟨sc', sm', a', N', K', r1, r2, r3, rS, r4⟩ | ⟨x, sc', mF, r1, r2, r3, r4, r5⟩
  · left
    obtain ⟨i1, i2, i3, i4, i5, i6, i7, i8, i9, i10, i11, i12, i13, i14, i15, i16, i17, i18, i19, i20, i21, i22, i23⟩ := id r3.1
    obtain ⟨o1, o2, -, o6, o7, o8⟩ := id r3.2.2.2.1
    obtain ⟨vt1, _⟩ := id r3.2.2.2.2.1
    have hz' := i3.2.2
    have bs := o8.2.2.1
    have hK2 := r3.2.2.2.2.2.1
    obtain ⟨cx, qx, -, -, -, -, -, nr6, nr7, _⟩ := i6.2.2.2 (N' - 1) (by omega)
    have hlv := (lev_b _ nr6 nr7).1
    obtain ⟨mU, u1, u2, u3, u4⟩ := use_m (T := T) (sc := sc') (sm := sm') (o := 0) (l0 := a) (l1 := a') (w := 0) (n := N' - 1) (by rw [if_pos hlv]; exact o7) (o2.trans (by omega)) nr6 nr7 (by omega) (by omega) (by omega)
    have cU : ∀ j, mU 84 j = sm' 84 j := fun j => by rw [u4 84 (by decide)]
    refine ⟨sc', mU, a', N', K', r1, ⟨i1, i2.row (cU 11) (u4 88 (by decide)), i3, by rw [cU]; exact i4, by rw [cU]; exact i5, ?_, i7, ?_, ?_, i14, ?_, ?_, u2, ?_, vt1, o1, by omega, i20, r2, rS, r3.2.2.2.2.2.2.1⟩, ?_⟩
    · exact i6.congr rfl (cU 47) (cU 57) (fun _ _ _ _ _ => rfl) (fun c n x y _ => by rw [u4 c (by omega)]) (fun j _ => by rw [u4 125 (by decide)])
    · intro k x y
      obtain ⟨f1, f2, f3, f4⟩ := i12 k x y
      exact ⟨f1, by rw [u3 k (by omega)]; exact f2, by rw [u4 92 (by decide)]; exact f3, by rw [u4 93 (by decide)]; exact f4⟩
    · have xa : XF sc sm sc m0 a a N K 0 0 0 := ⟨fun k _ => ⟨rfl, by rw [r0 91 (by decide)], by rw [r0 92 (by decide)]⟩, fun _ _ _ _ _ => rfl, fun c n x y _ => by rw [r0 c (by omega)], fun j _ => by rw [r0 125 (by decide)], fun _ _ _ _ _ => rfl, fun c n x y _ => by rw [r0 c (by omega)], fun c n x y _ => by rw [r0 c (by omega)], fun k _ => by rw [r0 132 (by decide)]⟩
      have xb : XF sc' sm' sc' mU a a' N K 0 0 0 := ⟨fun k x => ⟨rfl, u3 k x, by rw [u4 92 (by decide)]⟩, fun _ _ _ _ _ => rfl, fun c n x y _ => by rw [u4 c (by omega)], fun j _ => by rw [u4 125 (by decide)], fun _ _ _ _ _ => rfl, fun c n x y _ => by rw [u4 c (by omega)], fun c n x y _ => by rw [u4 c (by omega)], fun k _ => by rw [u4 132 (by decide)]⟩
      exact (xa.trans i13 (Nat.le_refl _) i22 (Nat.le_refl _) (Nat.le_refl _) (Nat.le_refl _) (Nat.le_refl _) (Nat.le_refl _)).trans xb (Nat.le_refl _) (Nat.le_refl _) (Nat.le_refl _) (Nat.le_refl _) (Nat.le_refl _) (Nat.le_refl _) (Nat.le_refl _)
    · exact (ef0.trans i15.ft).trans ⟨fun c x => u4 c (by omega), fun j _ => cU j⟩
    · rw [i16]
      exact ⟨fun y => ⟨y.1, fun n z1 z2 => (NOK.congr (fun b x y => by rw [u4 b (by omega)])).mpr (y.2 n z1 z2)⟩, fun y => ⟨y.1, fun n z1 z2 => (NOK.congr (fun b x y => by rw [u4 b (by omega)])).mp (y.2 n z1 z2)⟩⟩
    · exact o8.rows (fun c x y => u4 c (by omega)) rfl rfl
    · rcases r4 with ⟨F', G', y1, y2, y3, y4, y5⟩ | ⟨y1, mF, y2, y3⟩
      · left
        rw [y1]
        unfold RC
        obtain ⟨G', rfl⟩ : ∃ k, G' = k + 1 := ⟨G' - 1, by omega⟩
        obtain ⟨F', rfl⟩ : ∃ k, F' = k + 1 := ⟨F' - 1, by omega⟩
        have u1' : f_265 0 0 sm' = some mU := u1
        rw [j_270_0, if_pos (by omega)]
        unfold j_270_85
        rw [if_neg (by rw [i8]; simp), u1', Option.bind_some, Option.bind_some]
        dsimp only
        rw [if_pos (by decide), if_neg (by decide), go_25 FU1 (by rw [cU]; exact i5), j_257_25, if_neg (by rw [cU, i5]; simp), if_pos (by decide)]
        unfold j_257_136
        rw [if_pos (by rw [cU, i5]; decide), u4 126 (by decide)]
        show some (sm' 126 0, mU) = _
        rw [show sm' 126 0 = (N' : Int) - 1 from o2]
      · exact Or.inr ⟨y1, mF, y2, ef0.trans y3.1.ft, y3.2⟩
  · exact Or.inr ⟨x, sc', mF, r1, r2, r3, r4, ef0.trans r5.1.ft, r5.2⟩
end TOP
