/-! THE WORLD AT THE START. -/
theorem st_lt {ty : FieldType} {t N : Nat} {f : Nat → Value} {A : Nat → Prop} {U : State} {H : Heap} (h : va_T ty t N f A U H) : t < H.size := by
  obtain ⟨cell, h1, -⟩ := h
  exact (Array.getElem?_eq_some_iff.mp h1).1
def st_ad (B b t v w : Nat) (fm : Option Nat) (g : Nat → Nat) (a : Nat) : Option Nat := if a = 0 then some b else if a = 1 then some t else if a = 3 then some v else if a = 5 then some w else if a = 26 then fm else if a < 26 then some (g a) else some (B + (a - 27))
section STW
variable {B b t v w : Nat} {fm : Option Nat} {g : Nat → Nat}
theorem st_ad_g {a : Nat} (h1 : 2 ≤ a) (h2 : a < 26) (h3 : a ≠ 3) (h5 : a ≠ 5) : st_ad B b t v w fm g a = some (g a) := by
  unfold st_ad
  rw [if_neg (by omega), if_neg (by omega), if_neg h3, if_neg h5, if_neg (by omega), if_pos h2]
theorem st_ad_new (k : Nat) : st_ad B b t v w fm g (27 + k) = some (B + k) := by
  unfold st_ad
  rw [if_neg (by omega), if_neg (by omega), if_neg (by omega), if_neg (by omega), if_neg (by omega), if_neg (by omega)]
  congr 1
  omega
theorem st_ad_lt (hb : b < B) (ht : t < B) (hv : v < B) (hw : w < B) (hg : ∀ a, 2 ≤ a → a < 26 → a ≠ 3 → a ≠ 5 → g a < B) {a r : Nat} (ha : a < 26) (h : st_ad B b t v w fm g a = some r) : r < B := by
  unfold st_ad at h
  split at h
  · cases h; exact hb
  · split at h
    · cases h; exact ht
    · split at h
      · cases h; exact hv
      · split at h
        · cases h; exact hw
        · split at h
          · omega
          · cases h
            exact hg a (by omega) ha (by omega) (by omega)
end STW
set_option maxRecDepth 20000 in
set_option maxHeartbeats 4000000 in
theorem st_world {args : Array Value} {s : State} {b L : Nat} {xs : Nat → Int32} (hL : L ≤ 2560) (hX : va_X b L xs s s.heap) (hb : b < s.heap.size) (hn : narrow_1.before args s = true) (hts : ∀ w ∈ lw_tbl, w.before args s = true) :
    ∃ ad : Nat → Option Nat, ad 0 = some b ∧ so_AD ad s.heap.size ∧ so_Old s ad s.heap ∧ so_Rel s ad s.heap (st_h0 L (fun j => (xs j).toInt)) s.heap := by
  obtain ⟨t, t1, t2⟩ := st_levels hn
  obtain ⟨r2, v, w1, w2, w3, w4, w5⟩ := st_words hn
  obtain ⟨r4, w, z1, z2, z3, z4, z5⟩ := st_signs hn
  obtain ⟨f1, f2, f3, f4⟩ := st_refs hn
  obtain ⟨⟨l1, l2⟩, ⟨l3, l4⟩, l5, l6⟩ := st_stat
  obtain ⟨fv, fe, fr⟩ := Cond.isRef_spec (args := args) (first := s) (o := none) (s := s) (idx := []) f3
  have hfm : ∃ fm : Option Nat, fv = va_rf fm := by
    cases fv <;> first
      | exact ⟨some _, rfl⟩
      | exact ⟨none, rfl⟩
      | cases fr
  obtain ⟨fm, rfl⟩ := hfm
  have hex : ∀ q : Nat, ∃ r : Nat, 2 ≤ q → q < 26 → q ≠ 3 → q ≠ 5 → (Term.string (tb_RN (tb_st.getD q (0, 0, "")).1) (tb_st.getD q (0, 0, "")).2.1).eval args s none [] s = some (.ref r) ∧ r < s.heap.size := fun q => by
    by_cases c : 2 ≤ q ∧ q < 26 ∧ q ≠ 3 ∧ q ≠ 5
    · obtain ⟨r, h⟩ := st_strs hn q c.1 c.2.1 c.2.2.1 c.2.2.2
      exact ⟨r, fun _ _ _ _ => h⟩
    · exact ⟨0, fun a1 a2 a3 a4 => absurd ⟨a1, a2, a3, a4⟩ c⟩
  obtain ⟨g, hg⟩ := Classical.axiomOfChoice hex
  have e2 : g 2 = r2 := by
    have h1 : (Term.string "MachineText$Names" (51 : Nat)).eval args s none [] s = some (.ref (g 2)) := (hg 2 (by decide) (by decide) (by decide) (by decide)).1
    rw [w1] at h1
    cases h1
    rfl
  have e4 : g 4 = r4 := by
    have h1 : (Term.string "MachineText$Lexemes" (135 : Nat)).eval args s none [] s = some (.ref (g 4)) := (hg 4 (by decide) (by decide) (by decide) (by decide)).1
    rw [z1] at h1
    cases h1
    rfl
  have hA : ∀ a : Nat, a < s.heap.size → ¬ s.heap.size ≤ a := fun a ha => by omega
  refine ⟨st_ad s.heap.size b t v w fm g, rfl, ⟨fun k => st_ad_new k, fun a r ha h => st_ad_lt (fm := fm) hb (st_lt t2) (st_lt w5) (st_lt z5) (fun a h1 h2 h3 h5 => (hg a h1 h2 h3 h5).2) ha h⟩, ⟨?_, ?_, ?_, ?_, ?_, st_kin hn⟩, rfl, fun _ _ => rfl, fun a ha => ?_, st_numok, st_restok hL⟩
  · exact va_Zof (hts _ l1) (hts _ l2) t1 hA
  · exact va_Zof (hts _ l3) (hts _ l4) f4 hA
  · exact va_Zof (hts _ l5) (hts _ l6) fe hA
  · exact ⟨s, args, State.WarmedH.refl s, rfl, hts, f1, f2⟩
  · intro q h1 h2 h3 h5
    exact ⟨g q, st_ad_g h1 h2 h3 h5, vk_R.of (hts _ (st_sref q h1 h2 h3 h5)) (hg q h1 h2 h3 h5).1⟩
  · match a with
    | 0 =>
      obtain ⟨cell, c1, c2, c3, c4, c5⟩ := hX
      refine so_cell.arr (t := 0) (n := L) (ty := .int) (r := b) rfl rfl rfl rfl ⟨cell, c1, c2, c3, so_len.of c4, fun j hj => ?_⟩
      show _ = some (Value.int (Int32.ofInt (if j < L then (xs j).toInt else 0)))
      rw [if_pos hj, Int32.ofInt_toInt]
      exact c5 j hj
    | 1 => exact so_cell.arr (t := 0) (n := 22) (ty := .int) (r := t) rfl rfl rfl rfl (st_arrT (F := fun j => st_lev.getD j 0) (tg := 0) t2 (by decide))
    | 2 => exact st_str (w := 3) (v := v) (r := r2) (n := 2) rfl rfl (by rw [st_ad_g (by decide) (by decide) (by decide) (by decide), e2]) rfl rfl rfl w2 w3 w4 (by decide)
    | 3 => exact so_cell.arr (t := 1) (n := 49) (ty := .byte) (r := v) rfl rfl rfl rfl (st_arrT (F := fun j => st_wrd.getD j 0) (tg := 1) w5 (by decide))
    | 4 => exact st_str (w := 5) (v := w) (r := r4) (n := 2) rfl rfl (by rw [st_ad_g (by decide) (by decide) (by decide) (by decide), e4]) rfl rfl rfl z2 z3 z4 (by decide)
    | 5 => exact so_cell.arr (t := 1) (n := 20) (ty := .byte) (r := w) rfl rfl rfl rfl (st_arrT (F := fun j => st_sgn.getD j 0) (tg := 1) z5 (by decide))
    | k + 6 => exact so_cell.nil rfl rfl
