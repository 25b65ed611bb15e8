/-! EVERY SCRIPT OF AT MOST FIVE INTS: the law answers true, by evaluation over intervals. -/
def tx_num (L : Nat) (cs : List tx_I) (a j : Nat) : tx_I := match a with
  | 0 => if j < L then cs.getD j tx_top else .inl 0
  | 1 => .inl (st_lev.getD j 0)
  | 3 => .inl (st_wrd.getD j 0)
  | 5 => .inl (st_sgn.getD j 0)
  | _ => .inl 0
def tx_h0 (L : Nat) (cs : List tx_I) : tx_H := (0, 0, st_kind L, tx_num L cs, st_ref, fun _ => 0)
theorem tx_h0E {L : Nat} {cs : List tx_I} {xs : Nat → Int} (hc : ∀ j, j < L → tx_gi (cs.getD j tx_top) (xs j)) : tx_gh (tx_h0 L cs) (st_h0 L xs) := by
  refine ⟨rfl, rfl, rfl, fun a j => ?_, rfl⟩
  show tx_gi (tx_num L cs a j) (st_num L xs a j)
  match a with
  | 0 =>
    show tx_gi (if j < L then cs.getD j tx_top else .inl 0) (if j < L then xs j else 0)
    split
    · rename_i h; exact hc j h
    · exact rfl
  | 1 => exact rfl
  | 2 => exact rfl
  | 3 => exact rfl
  | 4 => exact rfl
  | 5 => exact rfl
  | a + 6 => exact rfl
def tx_chk (r : Option (tx_O × tx_H)) : Bool := match r with
  | some (.inl (some (.inl (.inl z))), t) => decide (z = 1 ∧ t.1 ≤ 600002 ∧ t.2.1 ≤ 7290000)
  | _ => false
def tx_law (L : Nat) (cs : List tx_I) : Bool := tx_chk (tx_ev 800 12 279 [.inr (.inr (some 0))] (tx_h0 L cs))
theorem tx_use {L : Nat} {cs : List tx_I} {xs : Nat → Int} (hc : ∀ j, j < L → tx_gi (cs.getD j tx_top) (xs j)) (h : tx_law L cs = true) : ∃ h' : ax_H, ax_ev 800 12 279 [.inr (.inr (some 0))] (st_h0 L xs) = some (.inl (some (.inl 1)), h') ∧ h'.1 ≤ 600002 ∧ h'.2.1 ≤ 7290000 := by
  unfold tx_law tx_chk at h
  split at h
  · rename_i z t e
    obtain ⟨q, h', k1, k2, k3⟩ := tx_evE 800 12 _ _ _ _ _ [.inr (.inr (some 0))] (st_h0 L xs) e ⟨rfl, trivial⟩ (tx_h0E hc)
    have h := of_decide_eq_true h
    obtain ⟨w, rfl, k4⟩ := k2
    obtain ⟨x, rfl, k5⟩ := tx_gv_i k4
    have k5 : x = z := k5
    exact ⟨h', by rw [k1, k5, h.1], by rw [k3.1]; exact h.2.1, by rw [k3.2.1]; exact h.2.2⟩
  · cases h
/-- the cases of a call's first argument -/
def tx_cls (k : Nat) : List tx_I := match k with
  | 1 => [.inr (none, some (-1), none), .inr (some 0, some 16, none), .inr (some 17, none, none)]
  | 3 => [.inr (none, some (-1), none), .inl 0, .inl 1, .inr (some 2, none, none)]
  | 4 => [.inr (none, some (-1), none), .inr (some 0, none, none)]
  | 5 => [.inr (none, some (-1), none), .inr (some 0, none, none)]
  | 6 => [.inr (none, some (-1), none), .inr (some 0, none, none)]
  | 7 => [.inr (none, some (-1), none), .inr (some 0, none, none)]
  | 9 => [.inr (none, some (-1), none), .inr (some 0, none, none)]
  | 11 => [.inr (none, some (-1), none), .inl 0, .inl 1, .inl 2, .inl 3, .inl 4, .inr (some 5, none, none)]
  | _ => [tx_top]
theorem tx_gb {lo hi : Option Int} {x : Int} (h1 : ∀ l, lo = some l → l ≤ x) (h2 : ∀ u, hi = some u → x ≤ u) : tx_gi (.inr (lo, hi, none)) x := ⟨h1, h2, fun _ h => (by cases h)⟩
theorem tx_gneg {x : Int} (h : x ≤ -1) : tx_gi (.inr (none, some (-1), none)) x := tx_gb (fun _ h => (by cases h)) (fun _ q => (by cases q; exact h))
theorem tx_gfrom {n x : Int} (h : n ≤ x) : tx_gi (.inr (some n, none, none)) x := tx_gb (fun _ q => (by cases q; exact h)) (fun _ h => (by cases h))
theorem tx_g2 (x : Int) : ∃ t ∈ ([.inr (none, some (-1), none), .inr (some 0, none, none)] : List tx_I), tx_gi t x := by
  rcases (show x ≤ -1 ∨ 0 ≤ x by omega) with h | h
  · exact ⟨_, List.mem_cons_self, tx_gneg h⟩
  · exact ⟨_, List.mem_cons_of_mem _ List.mem_cons_self, tx_gfrom h⟩
theorem tx_cover (k : Nat) (x : Int) : ∃ t ∈ tx_cls k, tx_gi t x := by
  unfold tx_cls
  split
  · rcases (show x ≤ -1 ∨ (0 ≤ x ∧ x ≤ 16) ∨ 17 ≤ x by omega) with h | h | h
    · exact ⟨_, List.mem_cons_self, tx_gneg h⟩
    · exact ⟨_, List.mem_cons_of_mem _ List.mem_cons_self, tx_gb (fun _ q => (by cases q; exact h.1)) (fun _ q => (by cases q; exact h.2))⟩
    · exact ⟨_, List.mem_cons_of_mem _ (List.mem_cons_of_mem _ List.mem_cons_self), tx_gfrom h⟩
  · rcases (show x ≤ -1 ∨ x = 0 ∨ x = 1 ∨ 2 ≤ x by omega) with h | h | h | h
    · exact ⟨_, List.mem_cons_self, tx_gneg h⟩
    · exact ⟨.inl 0, by simp, h⟩
    · exact ⟨.inl 1, by simp, h⟩
    · exact ⟨.inr (some 2, none, none), by simp, tx_gfrom h⟩
  · exact tx_g2 x
  · exact tx_g2 x
  · exact tx_g2 x
  · exact tx_g2 x
  · exact tx_g2 x
  · rcases (show x ≤ -1 ∨ x = 0 ∨ x = 1 ∨ x = 2 ∨ x = 3 ∨ x = 4 ∨ 5 ≤ x by omega) with h | h | h | h | h | h | h
    · exact ⟨_, List.mem_cons_self, tx_gneg h⟩
    · exact ⟨.inl 0, by simp, h⟩
    · exact ⟨.inl 1, by simp, h⟩
    · exact ⟨.inl 2, by simp, h⟩
    · exact ⟨.inl 3, by simp, h⟩
    · exact ⟨.inl 4, by simp, h⟩
    · exact ⟨.inr (some 5, none, none), by simp, tx_gfrom h⟩
  · exact ⟨tx_top, List.mem_cons_self, tx_gtop x⟩
theorem tx_and15 (x : Int) : ∃ k : Nat, k < 16 ∧ ax_iand x 15 = (k : Int) := by
  have h1 : ax_iand x 15 = ((Int32.ofInt x).toBitVec &&& 15#32).toInt := rfl
  have h2 : ((Int32.ofInt x).toBitVec &&& 15#32).toNat < 16 := by
    rw [BitVec.toNat_and]
    exact Nat.lt_of_le_of_lt Nat.and_le_right (by decide)
  refine ⟨((Int32.ofInt x).toBitVec &&& 15#32).toNat, h2, ?_⟩
  rw [h1]
  exact BitVec.toInt_eq_toNat_of_lt (by omega)
def tx_all (k : Nat) : Bool := (tx_cls k).all (fun t => tx_law 5 [.inr (none, none, some (k : Int)), t])
