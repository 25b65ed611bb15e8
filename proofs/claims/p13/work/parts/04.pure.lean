/-! THE ABSTRACT MACHINE's values, locals and stack beside the machine's own. -/
def so_v (ad : Nat → Option Nat) (v : ax_V) : Value := match v with
  | .inl z => .int (Int32.ofInt z)
  | .inr (.inl z) => .long (Int64.ofInt z)
  | .inr (.inr none) => .null
  | .inr (.inr (some a)) => va_rf (ad a)
def so_ok (v : ax_V) : Prop := match v with
  | .inl z => (Int32.ofInt z).toInt = z
  | .inr (.inl z) => (Int64.ofInt z).toInt = z
  | .inr (.inr _) => True
def so_okL (ls : ax_L) : Prop := ∀ (i : Nat) (v : ax_V), ls[i]? = some (some v) → so_ok v
def so_okS (st : List ax_V) : Prop := ∀ v ∈ st, so_ok v
def so_prs (ad : Nat → Option Nat) : Nat → ax_L → List (Nat × Value)
  | _, [] => []
  | k, none :: r => so_prs ad (k + 1) r
  | k, some v :: r => (k, so_v ad v) :: so_prs ad (k + 1) r
theorem so_cat (ad : Nat → Option Nat) (v : ax_V) : (so_v ad v).category = ax_cat v := by
  rcases v with z | z | _ | a
  · rfl
  · rfl
  · rfl
  · show (va_rf (ad a)).category = 1
    cases ad a <;> rfl
theorem so_prs_of (ad : Nat → Option Nat) : ∀ (ls : ax_L) (k : Nat) (q : Nat × Value), q ∈ so_prs ad k ls → ∃ (j : Nat) (v : ax_V), q = (k + j, so_v ad v) ∧ ls[j]? = some (some v) := by
  intro ls
  induction ls with
  | nil => intro k q h; cases h
  | cons a r ih =>
    intro k q h
    cases a with
    | none =>
      obtain ⟨j, v, e, g⟩ := ih (k + 1) q h
      exact ⟨j + 1, v, by rw [e]; congr 1; omega, by simpa using g⟩
    | some w =>
      rcases List.mem_cons.mp h with h | h
      · exact ⟨0, w, h, rfl⟩
      · obtain ⟨j, v, e, g⟩ := ih (k + 1) q h
        exact ⟨j + 1, v, by rw [e]; congr 1; omega, by simpa using g⟩
theorem so_prs_to (ad : Nat → Option Nat) : ∀ (ls : ax_L) (k j : Nat) (v : ax_V), ls[j]? = some (some v) → (k + j, so_v ad v) ∈ so_prs ad k ls := by
  intro ls
  induction ls with
  | nil => intro k j v h; simp at h
  | cons a r ih =>
    intro k j v h
    cases j with
    | zero =>
      have h : a = some v := by simpa using h
      subst h
      exact List.mem_cons_self
    | succ j =>
      have h : r[j]? = some (some v) := by simpa using h
      have h2 := ih (k + 1) j v h
      have e : k + 1 + j = k + (j + 1) := by omega
      rw [e] at h2
      cases a with
      | none => exact h2
      | some w => exact List.mem_cons_of_mem _ h2
/-- the machine's locals hold the abstract ones -/
def so_L (ad : Nat → Option Nat) (lsA : Array Slot) (nL : Nat) (ls : ax_L) : Prop := ls.length = nL ∧ lv_has lsA nL (so_prs ad 0 ls)
theorem so_L.get {ad : Nat → Option Nat} {lsA : Array Slot} {nL : Nat} {ls : ax_L} (h : so_L ad lsA nL ls) {i : Nat} {v : ax_V} (hi : ls[i]? = some (some v)) : lsA[i]? = some (.val (so_v ad v)) := by
  have h2 := so_prs_to ad ls 0 i v hi
  rw [Nat.zero_add] at h2
  exact h.2.2.2 _ h2
theorem so_cut_len (ls : ax_L) (i : Nat) : (ax_cut ls i).length = ls.length := by
  unfold ax_cut
  cases i with
  | zero => rfl
  | succ j => dsimp only; split <;> simp
theorem so_cut {ls : ax_L} {i j : Nat} {u : ax_V} (h : (ax_cut ls i)[j]? = some (some u)) : ls[j]? = some (some u) ∧ ¬ (j + 1 = i ∧ ax_cat u = 2) := by
  unfold ax_cut at h
  cases i with
  | zero => exact ⟨h, by omega⟩
  | succ k =>
    dsimp only at h
    split at h
    · rename_i z hz
      by_cases e : j = k
      · subst e
        rw [List.getElem?_set] at h
        simp only [if_true] at h
        split at h <;> cases h
      · rw [List.getElem?_set_ne (fun q => e q.symm)] at h
        exact ⟨h, by omega⟩
    · rename_i hz
      refine ⟨h, ?_⟩
      rintro ⟨e, g⟩
      have e : j = k := by omega
      subst e
      rcases u with z | z | z
      · simp [ax_cat] at g
      · exact hz z h
      · simp [ax_cat] at g
theorem so_st1_len (ls : ax_L) (i : Nat) (v : ax_V) : (ax_st1 ls i v).length = ls.length := by simp [ax_st1, so_cut_len]
theorem so_st2_len (ls : ax_L) (i : Nat) (v : ax_V) : (ax_st2 ls i v).length = ls.length := by simp [ax_st2, so_cut_len]
theorem so_st1_get {ls : ax_L} {i j : Nat} {v u : ax_V} (h : (ax_st1 ls i v)[j]? = some (some u)) : (j = i ∧ u = v) ∨ (j ≠ i ∧ ls[j]? = some (some u) ∧ ¬ (j + 1 = i ∧ ax_cat u = 2)) := by
  unfold ax_st1 at h
  by_cases e : j = i
  · subst e
    rw [List.getElem?_set] at h
    simp only [if_true] at h
    split at h
    · exact Or.inl ⟨rfl, (Option.some.inj (Option.some.inj h)).symm⟩
    · cases h
  · rw [List.getElem?_set_ne (fun q => e q.symm)] at h
    exact Or.inr ⟨e, so_cut h⟩
theorem so_st2_get {ls : ax_L} {i j : Nat} {v u : ax_V} (h : (ax_st2 ls i v)[j]? = some (some u)) : (j = i ∧ u = v) ∨ (j ≠ i ∧ j ≠ i + 1 ∧ ls[j]? = some (some u) ∧ ¬ (j + 1 = i ∧ ax_cat u = 2)) := by
  unfold ax_st2 at h
  by_cases e1 : j = i + 1
  · subst e1
    rw [List.getElem?_set] at h
    simp only [if_true] at h
    split at h <;> cases h
  · rw [List.getElem?_set_ne (fun q => e1 q.symm)] at h
    rcases so_st1_get (ls := ls) (i := i) (v := v) h with h | ⟨a, b⟩
    · exact Or.inl h
    · exact Or.inr ⟨a, e1, b⟩
theorem so_L.st1 {ad : Nat → Option Nat} {lsA lsB : Array Slot} {nL : Nat} {ls : ax_L} {i : Nat} {v : ax_V} (h : so_L ad lsA nL ls) (hs : lv_has lsB nL ((i, so_v ad v) :: (so_prs ad 0 ls).filter (fun q => !(q.1 == i) && !(q.1 + 1 == i && q.2.category == 2)))) : so_L ad lsB nL (ax_st1 ls i v) := by
  refine ⟨by rw [so_st1_len]; exact h.1, hs.1, hs.2.1, fun q hq => ?_⟩
  obtain ⟨j, u, e, g⟩ := so_prs_of ad _ 0 q hq
  rw [Nat.zero_add] at e
  subst e
  rcases so_st1_get g with ⟨e1, e2⟩ | ⟨e1, e2, e3⟩
  · subst e1; subst e2
    exact hs.2.2 _ List.mem_cons_self
  · refine hs.2.2 _ (List.mem_cons_of_mem _ (List.mem_filter.mpr ⟨?_, ?_⟩))
    · have h2 := so_prs_to ad ls 0 j u e2
      rw [Nat.zero_add] at h2
      exact h2
    · rw [so_cat]
      simp only [Bool.and_eq_true, Bool.not_eq_true', beq_eq_false_iff_ne, ne_eq, Bool.and_eq_false_iff]
      refine ⟨e1, ?_⟩
      by_cases z : j + 1 = i
      · exact Or.inr (fun w => e3 ⟨z, w⟩)
      · exact Or.inl z
theorem so_L.st2 {ad : Nat → Option Nat} {lsA lsB : Array Slot} {nL : Nat} {ls : ax_L} {i : Nat} {v : ax_V} (h : so_L ad lsA nL ls) (hs : lv_has lsB nL ((i, so_v ad v) :: (so_prs ad 0 ls).filter (fun q => !(q.1 == i) && (!(q.1 == i + 1) && !(q.1 + 1 == i && q.2.category == 2))))) : so_L ad lsB nL (ax_st2 ls i v) := by
  refine ⟨by rw [so_st2_len]; exact h.1, hs.1, hs.2.1, fun q hq => ?_⟩
  obtain ⟨j, u, e, g⟩ := so_prs_of ad _ 0 q hq
  rw [Nat.zero_add] at e
  subst e
  rcases so_st2_get g with ⟨e1, e2⟩ | ⟨e1, e0, e2, e3⟩
  · subst e1; subst e2
    exact hs.2.2 _ List.mem_cons_self
  · refine hs.2.2 _ (List.mem_cons_of_mem _ (List.mem_filter.mpr ⟨?_, ?_⟩))
    · have h2 := so_prs_to ad ls 0 j u e2
      rw [Nat.zero_add] at h2
      exact h2
    · rw [so_cat]
      simp only [Bool.and_eq_true, Bool.not_eq_true', beq_eq_false_iff_ne, ne_eq, Bool.and_eq_false_iff]
      refine ⟨e1, e0, ?_⟩
      by_cases z : j + 1 = i
      · exact Or.inr (fun w => e3 ⟨z, w⟩)
      · exact Or.inl z
theorem so_okL.st1 {ls : ax_L} {i : Nat} {v : ax_V} (h : so_okL ls) (hv : so_ok v) : so_okL (ax_st1 ls i v) := by
  intro j u g
  rcases so_st1_get g with ⟨-, e⟩ | ⟨-, e, -⟩
  · rw [e]; exact hv
  · exact h j u e
theorem so_okL.st2 {ls : ax_L} {i : Nat} {v : ax_V} (h : so_okL ls) (hv : so_ok v) : so_okL (ax_st2 ls i v) := by
  intro j u g
  rcases so_st2_get g with ⟨-, e⟩ | ⟨-, -, e, -⟩
  · rw [e]; exact hv
  · exact h j u e
theorem so_ld {ls : ax_L} {i : Nat} {v : ax_V} (h : ax_ld ls i = some v) : ls[i]? = some (some v) := by
  unfold ax_ld at h
  split at h
  · rename_i w e
    rw [e, Option.some.inj h]
  · cases h
/-! numbers -/
theorem so_w32 (z : Int) : (Int32.ofInt (ax_w32 z)) = Int32.ofInt z := by
  apply Int32.toInt_inj.mp
  simp [ax_w32, Int32.toInt_ofInt, Int32.size]
theorem so_w32_ok (z : Int) : (Int32.ofInt (ax_w32 z)).toInt = ax_w32 z := by
  rw [so_w32]
  simp [ax_w32, Int32.toInt_ofInt, Int32.size]
theorem so_w64 (z : Int) : (Int64.ofInt (ax_w64 z)) = Int64.ofInt z := by
  apply Int64.toInt_inj.mp
  simp [ax_w64, Int64.toInt_ofInt, Int64.size]
theorem so_w64_ok (z : Int) : (Int64.ofInt (ax_w64 z)).toInt = ax_w64 z := by
  rw [so_w64]
  simp [ax_w64, Int64.toInt_ofInt, Int64.size]
theorem so_oi (x : Int32) : Int32.ofInt x.toInt = x := Int32.ofInt_toInt x
theorem so_ol (x : Int64) : Int64.ofInt x.toInt = x := Int64.ofInt_toInt x
