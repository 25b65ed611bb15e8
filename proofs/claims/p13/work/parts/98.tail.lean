/-! THE REST of a helper: ')' NUMBER '=' an expression ';'. -/
section TL
variable {T : TT} {sc m s q6 : Sg} {S a N K C B : Nat} {w v x : Int}
theorem xb_err {α β : Type} {x : Nat × Sg} {k : α → Option (Sum β (Nat × Sg))} : xb (some (.inr x) : Option (Sum α (Nat × Sg))) k = some (.inr x) := rfl
noncomputable def hd4 (s : Sg) : Option (Sum Sg (Nat × Sg)) := xb (f_92 59 s) fun q9 => (f_102 0 q9).bind fun q10 => some (.inl q10)
noncomputable def hd3 (w : Int) (q6 : Sg) : Option (Sum Sg (Nat × Sg)) := xb (f_45 100 0 q6) fun q7 => (f_38 (q6 39 10) (q7 66 8) w q7).bind fun q8 => hd4 q8
noncomputable def hd2 (w : Int) (s : Sg) : Option (Sum Sg (Nat × Sg)) := xb (f_92 61 s) fun q6 => hd3 w q6
noncomputable def hd1 (s : Sg) : Option (Sum Sg (Nat × Sg)) := xb (f_93 1 32 s) fun q4 => gd (g_190 q4.1 q4.2) ((some (f_190 q4.1 q4.2)).bind fun q5 => hd2 q4.1 q5)
theorem hd_eq (s : Sg) : j_152_84 s = xb (f_92 41 s) fun q3 => hd1 q3 := rfl
noncomputable def ht4 (l1 v : Int) (s : Sg) : Option Sg := gd (0 ≤ l1 ∧ l1 < 4100) ((f_231 7 (ax_u2 s 100 l1.toNat v)).bind fun q7 => some q7.2)
noncomputable def ht3 (l1 : Int) (s : Sg) : Option Sg := gd (0 ≤ l1 ∧ l1 < 4100) ((f_257 l1 0 (ax_u2 s 101 l1.toNat (s 84 18))).bind fun q6 => ht4 l1 q6.1 q6.2)
noncomputable def ht2 (l1 v : Int) (s : Sg) : Option Sg := gd (0 ≤ l1 ∧ l1 < 4100) ((f_231 10 (ax_u2 s 97 l1.toNat v)).bind fun q5 => ht3 l1 q5.2)
noncomputable def ht1 (l1 : Int) (s : Sg) : Option Sg := (f_231 2 s).bind fun q4 => ht2 l1 q4.1 q4.2
theorem ht_eq (l1 : Int) (s : Sg) : j_253_116 l1 s = (f_231 12 s).bind fun q3 => ht1 l1 q3.2 := rfl
theorem fht4 (hf : 0 < m 84 6) (hS : S < 4100) (v : Int) : ∃ m' : Sg, ht4 (S : Int) v m = some m' ∧ BSm m m' := by
  have e : 0 < (ax_u2 m 100 S v) 84 6 := by rw [u2_row _ _ _ (by decide)]; exact hf
  refine ⟨_, ?_, ro_sf (by decide), e⟩
  unfold ht4
  rw [gd_pos (by omega), Int.toNat_natCast, takeF e, Option.bind_some]
theorem fht3 (hf : 0 < m 84 6) (hS : S < 4100) : ∃ m' : Sg, ht3 (S : Int) m = some m' ∧ BSm m m' := by
  have e : 0 < (ax_u2 m 101 S (m 84 18)) 84 6 := by rw [u2_row _ _ _ (by decide)]; exact hf
  obtain ⟨m1, k1, k2⟩ := fl257 e (S : Int) 0
  obtain ⟨m2, k3, k4⟩ := fht4 k2.2 hS 0
  refine ⟨m2, ?_, ((ro_sf (by decide)).trans k2.1).trans k4.1, k4.2⟩
  unfold ht3
  rw [gd_pos (by omega), Int.toNat_natCast, k1, Option.bind_some]
  exact k3
theorem fht2 (hf : 0 < m 84 6) (hS : S < 4100) (v : Int) : ∃ m' : Sg, ht2 (S : Int) v m = some m' ∧ BSm m m' := by
  have e : 0 < (ax_u2 m 97 S v) 84 6 := by rw [u2_row _ _ _ (by decide)]; exact hf
  obtain ⟨m2, k3, k4⟩ := fht3 e hS
  refine ⟨m2, ?_, (ro_sf (by decide)).trans k4.1, k4.2⟩
  unfold ht2
  rw [gd_pos (by omega), Int.toNat_natCast, takeF e, Option.bind_some]
  exact k3
theorem fht1 (hf : 0 < m 84 6) (hS : S < 4100) : ∃ m' : Sg, ht1 (S : Int) m = some m' ∧ BSm m m' := by
  obtain ⟨m2, k3, k4⟩ := fht2 hf hS 0
  refine ⟨m2, ?_, k4⟩
  unfold ht1
  rw [takeF hf, Option.bind_some]
  exact k3
/-- a claim of a width -/
theorem c38 (hC : s 61 4 = (C : Int)) (hC8 : C < 2049) (x y w : Int) : f_38 x y w s = some (ax_u2 (ax_u2 (ax_u2 (ax_u2 (ax_u2 s 62 C x) 63 C (-1)) 64 C y) 65 C (if w < 1 then 1 else w)) 61 4 ((C + 1 : Nat) : Int)) := by
  have e : f_292 1 w s = (if w < 1 then 1 else w) := by
    unfold f_292
    by_cases c : 1 < w
    · rw [if_pos c, if_neg (by omega)]
    · rw [if_neg c]
      by_cases d : w < 1
      · rw [if_pos d]
      · rw [if_neg d]; omega
  obtain ⟨g, f⟩ := c42 hC hC8 x (-1) y (if w < 1 then 1 else w)
  unfold f_38
  rw [e, gd_pos g, f, Option.bind_some]
/-- what the end of a helper changes: the claim C is made, what was bound is free again -/
def HEc (s s' : Sg) (B C : Nat) (x y w : Int) : Prop := s' 61 4 = ((C + 1 : Nat) : Int) ∧ (∀ j, j ≠ 4 → s' 61 j = s 61 j) ∧ s' 62 C = x ∧ s' 63 C = -1 ∧ s' 64 C = y ∧ s' 65 C = (if w < 1 then 1 else w) ∧ (∀ c i, 62 ≤ c → c ≤ 65 → i ≠ C → s' c i = s c i) ∧ s' 31 8 = 0 ∧ (∀ j, j ≠ 8 → s' 31 j = s 31 j) ∧ (∀ c, ¬ (c = 31 ∨ c = 37 ∨ c = 39 ∨ 61 ≤ c ∧ c ≤ 65) → s' c = s c) ∧ (∀ j, j ≠ 10 → j ≠ 11 → s' 39 j = s 39 j) ∧ (∀ i, i < B → 0 ≤ s 38 i → s 38 i < 4112 → s' 37 (s 38 i).toNat = 0) ∧ (∀ id : Nat, (∀ i, i < B → s 38 i ≠ (id : Int)) → s' 37 id = s 37 id)
theorem hd4_y (hT : TWF T) (hc : CC T s) (hu : CU T s a) (hC : s 61 4 = (C : Int)) (hC8 : C < 2049) (hB : s 31 8 = (B : Int)) (hB8 : B ≤ 4112) (t : T.tk a = 59) (x y w : Int) :
    ∃ s' : Sg, (f_38 x y w s).bind (fun q8 => hd4 q8) = some (.inl s') ∧ CU T s' (a + 1) ∧ HEc s s' B C x y w := by
  obtain ⟨s1, hs1⟩ : ∃ s1 : Sg, s1 = ax_u2 (ax_u2 (ax_u2 (ax_u2 (ax_u2 s 62 C x) 63 C (-1)) 64 C y) 65 C (if w < 1 then 1 else w)) 61 4 ((C + 1 : Nat) : Int) := ⟨_, rfl⟩
  have r1 : ∀ c, ¬ (61 ≤ c ∧ c ≤ 65) → s1 c = s c := fun c z => by rw [hs1, u2_row _ _ _ (by omega), u2_row _ _ _ (by omega), u2_row _ _ _ (by omega), u2_row _ _ _ (by omega), u2_row _ _ _ (by omega)]
  have cc1 : CC T s1 := hc.row (by rw [r1 39 (by decide)]) (r1 41 (by decide)) (r1 42 (by decide)) (r1 44 (by decide)) (by rw [r1 31 (by decide)]) (r1 1 (by decide))
  have cu1 : CU T s1 a := by
    unfold CU at *
    rw [r1 39 (by decide)]
    exact hu
  have hz := hT.lt hu.2.2 (by rw [t]; decide)
  obtain ⟨s', z1, z2, z3, z4, z5, z6⟩ := c102 (s := cur T s1 (a + 1)) (M := 0) (B := B) (by omega) hB8 (by rw [cur_row (by decide), r1 31 (by decide)]; exact hB)
  have cu2 : CU T s' (a + 1) := by
    have := cur_cu (T := T) (s := s1) (a := a + 1) (by omega)
    unfold CU at *
    rw [z4 39 (by decide) (by decide)]
    exact this
  have r2 : ∀ c, c ≠ 31 → c ≠ 37 → c ≠ 39 → s' c = s1 c := fun c p q r => by rw [z4 c p q, cur_row r]
  refine ⟨s', ?_, cu2, ?_, ?_, ?_, ?_, ?_, ?_, ?_, z2, ?_, ?_, ?_, ?_, ?_⟩
  · rw [c38 hC hC8, Option.bind_some, ← hs1]
    unfold hd4
    rw [c92y hT cc1 cu1 t (by decide), xb_inl]
    have : f_102 0 (cur T s1 (a + 1)) = some s' := z1
    rw [this, Option.bind_some]
  · rw [r2 61 (by decide) (by decide) (by decide), hs1]; exact u2_same _ _ _ _
  · intro j hj
    rw [r2 61 (by decide) (by decide) (by decide), hs1, u2_col _ _ _ hj, u2_row _ _ _ (by decide), u2_row _ _ _ (by decide), u2_row _ _ _ (by decide), u2_row _ _ _ (by decide)]
  · rw [r2 62 (by decide) (by decide) (by decide), hs1, u2_row _ _ _ (by decide), u2_row _ _ _ (by decide), u2_row _ _ _ (by decide), u2_row _ _ _ (by decide)]; exact u2_same _ _ _ _
  · rw [r2 63 (by decide) (by decide) (by decide), hs1, u2_row _ _ _ (by decide), u2_row _ _ _ (by decide), u2_row _ _ _ (by decide)]; exact u2_same _ _ _ _
  · rw [r2 64 (by decide) (by decide) (by decide), hs1, u2_row _ _ _ (by decide), u2_row _ _ _ (by decide)]; exact u2_same _ _ _ _
  · rw [r2 65 (by decide) (by decide) (by decide), hs1, u2_row _ _ _ (by decide)]; exact u2_same _ _ _ _
  · intro c i x1 x2 hi
    rw [r2 c (by omega) (by omega) (by omega), hs1]
    simp [ax_u2, hi, show c ≠ 61 by omega]
  · intro j hj
    rw [z3 j hj, cur_row (by decide), r1 31 (by decide)]
  · intro c hx
    rw [r2 c (by omega) (by omega) (by omega), r1 c (by omega)]
  · intro j p q
    rw [z4 39 (by decide) (by decide), cur_col p q, r1 39 (by decide)]
  · intro i hi h0 h1
    have e : (cur T s1 (a + 1)) 38 i = s 38 i := by rw [cur_row (by decide), r1 38 (by decide)]
    have := z5 i (by omega) hi (by rw [e]; exact h0) (by rw [e]; exact h1)
    rw [e] at this
    exact this
  · intro id hid
    rw [z6 id (fun i _ hi => by rw [cur_row (by decide), r1 38 (by decide)]; exact hid i hi), cur_row (by decide), r1 37 (by decide)]
theorem hd4_n (hu : CU T s a) (hC : s 61 4 = (C : Int)) (hC8 : C < 2049) (t : T.tk a ≠ 59) (x y w : Int) :
    ∃ s' : Sg, (f_38 x y w s).bind (fun q8 => hd4 q8) = some (.inr (15, s')) ∧ BSc T s s' := by
  obtain ⟨s1, hs1⟩ : ∃ s1 : Sg, s1 = ax_u2 (ax_u2 (ax_u2 (ax_u2 (ax_u2 s 62 C x) 63 C (-1)) 64 C y) 65 C (if w < 1 then 1 else w)) 61 4 ((C + 1 : Nat) : Int) := ⟨_, rfl⟩
  have r1 : ∀ c, ¬ (61 ≤ c ∧ c ≤ 65) → s1 c = s c := fun c z => by rw [hs1, u2_row _ _ _ (by omega), u2_row _ _ _ (by omega), u2_row _ _ _ (by omega), u2_row _ _ _ (by omega), u2_row _ _ _ (by omega)]
  have cu1 : CU T s1 a := by
    unfold CU at *
    rw [r1 39 (by decide)]
    exact hu
  refine ⟨s1, ?_, ⟨fun c z => r1 c (by omega), fun j _ _ => by rw [r1 39 (by decide)], fun j _ => by rw [r1 30 (by decide)], fun j _ => by rw [r1 31 (by decide)], W8.same (r1 31 (by decide))⟩, _, cu1⟩
  rw [c38 hC hC8, Option.bind_some, ← hs1]
  unfold hd4
  rw [c92n cu1 t, xb_err]
end TL
