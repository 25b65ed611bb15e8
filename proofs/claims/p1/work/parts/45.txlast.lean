theorem tx_alls : ∀ k, k < 16 → tx_all k = true := fun k hk => match k, hk with
  | 0, _ => tx_a0
  | 1, _ => tx_a1
  | 2, _ => tx_a2
  | 3, _ => tx_a3
  | 4, _ => tx_a4
  | 5, _ => tx_a5
  | 6, _ => tx_a6
  | 7, _ => tx_a7
  | 8, _ => tx_a8
  | 9, _ => tx_a9
  | 10, _ => tx_a10
  | 11, _ => tx_a11
  | 12, _ => tx_a12
  | 13, _ => tx_a13
  | 14, _ => tx_a14
  | 15, _ => tx_a15
  | k + 16, h => absurd h (by omega)
theorem tx_short {L : Nat} {xs : Nat → Int} (h : tx_law L [] = true) : ∃ h' : ax_H, ax_ev 800 12 279 [.inr (.inr (some 0))] (st_h0 L xs) = some (.inl (some (.inl 1)), h') ∧ h'.1 ≤ 600002 ∧ h'.2.1 ≤ 7290000 := tx_use (fun j _ => by
  rw [show ([] : List tx_I).getD j tx_top = tx_top from rfl]
  exact tx_gtop _) h
theorem tx_p1 (L : Nat) (hL : L ≤ 5) (xs : Nat → Int) : ∃ h' : ax_H, ax_ev 800 12 279 [.inr (.inr (some 0))] (st_h0 L xs) = some (.inl (some (.inl 1)), h') ∧ h'.1 ≤ 600002 ∧ h'.2.1 ≤ 7290000 := by
  match L, hL with
  | 0, _ => exact tx_short tx_s0
  | 1, _ => exact tx_short tx_s1
  | 2, _ => exact tx_short tx_s2
  | 3, _ => exact tx_short tx_s3
  | 4, _ => exact tx_short tx_s4
  | 5, _ =>
    obtain ⟨k, hk, e⟩ := tx_and15 (xs 0)
    obtain ⟨t, ht, g⟩ := tx_cover k (xs 1)
    have h := List.all_eq_true.mp (tx_alls k hk) t ht
    refine tx_use (cs := [.inr (none, none, some (k : Int)), t]) (fun j _ => ?_) h
    match j with
    | 0 => exact ⟨fun _ h => (by cases h), fun _ h => (by cases h), fun _ h => ((by cases h; exact e))⟩
    | 1 => exact g
    | j + 2 => exact tx_gtop _
  | L + 6, h => exact absurd h (by omega)
