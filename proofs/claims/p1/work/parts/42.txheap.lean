/-! THE INTERVALS' HEAP, CALLS AND RUN beside the abstract machine's. -/
def tx_W (r : Option (List tx_V × tx_H)) (q : Option (List ax_V × ax_H)) : Prop := ∀ st t, r = some (st, t) → ∃ sv h, q = some (sv, h) ∧ tx_gs st sv ∧ tx_gh t h
theorem tx_Wn {q : Option (List ax_V × ax_H)} : tx_W none q := fun _ _ h => by cases h
theorem tx_Ws {st : List tx_V} {t : tx_H} {sv : List ax_V} {h : ax_H} {q : Option (List ax_V × ax_H)} (e : q = some (sv, h)) (hs : tx_gs st sv) (hh : tx_gh t h) : tx_W (some (st, t)) q := fun _ _ g => by cases g; exact ⟨sv, h, e, hs, hh⟩
theorem tx_gh_kd {t : tx_H} {h : ax_H} (g : tx_gh t h) (a : Nat) : ax_kd h a = tx_kd t a := by
  show h.2.2.1 a = t.2.2.1 a
  rw [g.2.2.1]
theorem tx_gh_nu {t : tx_H} {h : ax_H} (g : tx_gh t h) (a j : Nat) : tx_gi (tx_nu t a j) (ax_nu h a j) := g.2.2.2.1 a j
theorem tx_gh_rf {t : tx_H} {h : ax_H} (g : tx_gh t h) (a j : Nat) : ax_rf h a j = tx_rf t a j := by
  show h.2.2.2.2.1 a j = t.2.2.2.2.1 a j
  rw [g.2.2.2.2]
theorem tx_gh_ex {t : tx_H} {h : ax_H} (g : tx_gh t h) (a : Nat) : ax_ex h a = tx_ex t a := by
  show h.2.2.2.2.2 a = t.2.2.2.2.2 a
  rw [g.2.2.2.2]
theorem tx_gh_setn {t : tx_H} {h : ax_H} (g : tx_gh t h) (a j : Nat) {z : tx_I} {x : Int} (hz : tx_gi z x) : tx_gh (tx_setn t a j z) (ax_setn h a j x) := by
  refine ⟨g.1, g.2.1, g.2.2.1, fun b k => ?_, g.2.2.2.2⟩
  show tx_gi (if b = a then (if k = j then z else t.2.2.2.1 b k) else t.2.2.2.1 b k) (if b = a then (if k = j then x else h.2.2.2.1 b k) else h.2.2.2.1 b k)
  split
  · split
    · exact hz
    · exact g.2.2.2.1 b k
  · exact g.2.2.2.1 b k
theorem tx_gh_setr {t : tx_H} {h : ax_H} (g : tx_gh t h) (a j : Nat) (x : Option Nat) : tx_gh (tx_setr t a j x) (ax_setr h a j x) := by
  refine ⟨g.1, g.2.1, g.2.2.1, g.2.2.2.1, ?_⟩
  show (ax_u2 h.2.2.2.2.1 a j x, h.2.2.2.2.2) = (ax_u2 t.2.2.2.2.1 a j x, t.2.2.2.2.2)
  rw [g.2.2.2.2]
theorem tx_gh_sete {t : tx_H} {h : ax_H} (g : tx_gh t h) (a x : Nat) : tx_gh (tx_sete t a x) (ax_sete h a x) := by
  refine ⟨g.1, g.2.1, g.2.2.1, g.2.2.2.1, ?_⟩
  show (h.2.2.2.2.1, ax_u1 h.2.2.2.2.2 a x) = (t.2.2.2.2.1, ax_u1 t.2.2.2.2.2 a x)
  rw [g.2.2.2.2]
theorem tx_gh_new {t : tx_H} {h : ax_H} (g : tx_gh t h) (k : Nat × Nat) (n : Nat) : tx_gh (tx_new t k n) (ax_new h k n) := by
  refine ⟨?_, ?_, ?_, g.2.2.2.1, g.2.2.2.2⟩
  · show h.1 + 1 = t.1 + 1
    rw [g.1]
  · show h.2.1 + n = t.2.1 + n
    rw [g.2.1]
  · show ax_u1 h.2.2.1 (27 + h.1) k = ax_u1 t.2.2.1 (27 + t.1) k
    rw [g.1, g.2.2.1]
theorem tx_gh_newx {t : tx_H} {h : ax_H} (g : tx_gh t h) (x : Nat) : tx_gh (tx_newx t x) (ax_newx h x) := by
  refine ⟨?_, ?_, g.2.2.1, g.2.2.2.1, ?_⟩
  · show h.1 + 1 = t.1 + 1
    rw [g.1]
  · show h.2.1 + 6 = t.2.1 + 6
    rw [g.2.1]
  · show (h.2.2.2.2.1, ax_u1 h.2.2.2.2.2 (27 + h.1) (2 * x + 1)) = (t.2.2.2.2.1, ax_u1 t.2.2.2.2.2 (27 + t.1) (2 * x + 1))
    rw [g.1, g.2.2.2.2]
theorem tx_fvE {t : tx_H} {h : ax_H} (g : tx_gh t h) {ft o j : Nat} {v : tx_V} (e : tx_fv ft t o j = some v) : ∃ w, ax_fv ft h o j = some w ∧ tx_gv v w := by
  unfold tx_fv at e
  split at e
  · cases e
    exact ⟨.inl (ax_nu h o j), rfl, tx_gh_nu g o j⟩
  · cases e
    exact ⟨.inr (.inl (ax_nu h o j)), rfl, tx_gh_nu g o j⟩
  · cases e
    exact ⟨.inr (.inr (ax_rf h o j)), rfl, by rw [tx_gh_rf g]; exact rfl⟩
  · cases e
    exact ⟨.inl (ax_nu h o j), rfl, tx_gh_nu g o j⟩
  · cases e
theorem tx_pfE {t : tx_H} {h : ax_H} (g : tx_gh t h) {ft o j : Nat} {v : tx_V} {w : ax_V} {t' : tx_H} (hv : tx_gv v w) (e : tx_pf ft t o j v = some t') : ∃ h', ax_pf ft h o j w = some h' ∧ tx_gh t' h' := by
  unfold tx_pf at e
  split at e
  · split at e
    · cases e
      obtain ⟨x, rfl, hx⟩ := tx_gv_i hv
      exact ⟨_, rfl, tx_gh_setn g o j hx⟩
    · cases e
  · split at e
    · cases e
      obtain ⟨x, rfl, hx⟩ := tx_gv_l hv
      exact ⟨_, rfl, tx_gh_setn g o j hx⟩
    · cases e
  · split at e
    · rename_i z
      cases e
      have hv : w = .inr (.inr z) := hv
      subst hv
      exact ⟨_, rfl, tx_gh_setr g o j z⟩
    · cases e
  · split at e
    · rename_i z
      split at e
      · rename_i hz
        cases e
        have hv := tx_gv_k hv
        subst hv
        exact ⟨_, (show (if z = 0 ∨ z = 1 then some (ax_setn h o j z) else none) = _ by rw [if_pos hz]), tx_gh_setn g o j rfl⟩
      · cases e
    · cases e
  · cases e
theorem tx_elE {t : Nat} {z : tx_I} {x : Int} (h : tx_gi z x) : tx_gv (tx_el t z) (ax_el t x) := by
  unfold tx_el ax_el
  split
  · exact h
  · exact h
theorem tx_tkE {t : Nat} {z y : tx_I} {x : Int} (h : tx_gi z x) (e : tx_tk t z = some y) : ∃ w, ax_tk t x = some w ∧ tx_gi y w := by
  unfold tx_tk at e
  split at e
  · cases e; exact ⟨x, rfl, h⟩
  · cases e; exact ⟨ax_w8 x, rfl, tx_f1E ax_w8 h⟩
  · cases e; exact ⟨x, rfl, h⟩
  · cases e
section TXW
variable {st : List tx_V} {sv : List ax_V} {t : tx_H} {h : ax_H}
theorem tx_aldE (hs : tx_gs st sv) (g : tx_gh t h) (f : Nat → Bool) : tx_W (tx_ald f st t) (ax_ald f sv h) := by
  unfold tx_ald
  split
  · rename_i j o r
    obtain ⟨xs, rfl, h1⟩ := tx_gs_k hs
    obtain ⟨xs, rfl, h2⟩ := tx_gs_r h1
    split
    · rename_i c
      refine tx_Ws (sv := ax_el (ax_kd h o).1 (ax_nu h o j.toNat) :: xs) (h := h) ?_ ⟨?_, h2⟩ g
      · show (if f (ax_kd h o).1 = true ∧ 0 ≤ j ∧ j < ((ax_kd h o).2 : Int) then some (ax_el (ax_kd h o).1 (ax_nu h o j.toNat) :: xs, h) else none) = _
        rw [if_pos (by rw [tx_gh_kd g]; exact c)]
      · rw [tx_gh_kd g]
        exact tx_elE (tx_gh_nu g o j.toNat)
    · exact tx_Wn
  · exact tx_Wn
theorem tx_astE (hs : tx_gs st sv) (g : tx_gh t h) (f : Nat → Bool) (lg : Bool) {z : tx_I} {x : Int} (hz : tx_gi z x) : tx_W (tx_ast f lg st z t) (ax_ast f ((if lg = true then Sum.inr (Sum.inl x) else Sum.inl x) : ax_V) sv x h) := by
  unfold tx_ast
  split
  · rename_i j o r
    obtain ⟨xs, rfl, h1⟩ := tx_gs_k hs
    obtain ⟨xs, rfl, h2⟩ := tx_gs_r h1
    split
    · rename_i c
      obtain ⟨c1, c2, c3, c4, c5⟩ := c
      split
      · rename_i y e
        obtain ⟨w, e1, e2⟩ := tx_tkE hz e
        refine tx_Ws (sv := xs) (h := ax_setn h o j.toNat w) ?_ h2 (tx_gh_setn g o j.toNat e2)
        show (if f (ax_kd h o).1 = true ∧ 0 ≤ j ∧ j < ((ax_kd h o).2 : Int) ∧ 27 ≤ o ∧ ax_el (ax_kd h o).1 x = ((if lg = true then Sum.inr (Sum.inl x) else Sum.inl x) : ax_V) then (match ax_tk (ax_kd h o).1 x with
          | some y => some (xs, ax_setn h o j.toNat y)
          | none => none) else none) = _
        rw [if_pos]
        · rw [tx_gh_kd g, e1]
        · rw [tx_gh_kd g]
          refine ⟨c1, c2, c3, c4, ?_⟩
          unfold ax_el
          subst c5
          by_cases q : (tx_kd t o).1 = 2
          · rw [if_pos q, if_pos (by simpa using q)]
          · rw [if_neg q, if_neg (by simpa using q)]
      · exact tx_Wn
    · exact tx_Wn
  · exact tx_Wn
theorem tx_getfE (hs : tx_gs st sv) (g : tx_gh t h) (k a b : Nat) (d : Int) : tx_W (tx_heap (.getfield k) a b d st t) (ax_heap (.getfield k) a b d sv h) := by
  dsimp only [tx_heap]
  split
  · rename_i o r
    obtain ⟨xs, rfl, h2⟩ := tx_gs_r hs
    split
    · rename_i c
      split
      · rename_i v e
        obtain ⟨w, e1, e2⟩ := tx_fvE g e
        refine tx_Ws (sv := w :: xs) (h := h) ?_ ⟨e2, h2⟩ g
        show (if (ax_kd h o).1 = 100 + a then (match ax_fv (tb_f a b).2.2.1 h o b with
          | some v => some (v :: xs, h)
          | none => none) else none) = _
        rw [if_pos (by rw [tx_gh_kd g]; exact c), e1]
      · exact tx_Wn
    · exact tx_Wn
  · exact tx_Wn
theorem tx_putfE (hs : tx_gs st sv) (g : tx_gh t h) (k a b : Nat) (d : Int) : tx_W (tx_heap (.putfield k) a b d st t) (ax_heap (.putfield k) a b d sv h) := by
  dsimp only [tx_heap]
  split
  · rename_i v o r
    obtain ⟨x, xs, rfl, h1, h2⟩ := tx_gs_c hs
    obtain ⟨xs, rfl, h3⟩ := tx_gs_r h2
    split
    · rename_i c
      split
      · rename_i t' e
        obtain ⟨h', e1, e2⟩ := tx_pfE g h1 e
        refine tx_Ws (sv := xs) (h := h') ?_ h3 e2
        show (if (ax_kd h o).1 = 100 + a ∧ 27 ≤ o then (match ax_pf (tb_f a b).2.2.1 h o b x with
          | some h' => some (xs, h')
          | none => none) else none) = _
        rw [if_pos (by rw [tx_gh_kd g]; exact c), e1]
      · exact tx_Wn
    · exact tx_Wn
  · exact tx_Wn
theorem tx_alenE (hs : tx_gs st sv) (g : tx_gh t h) (a b : Nat) (d : Int) : tx_W (tx_heap .arraylength a b d st t) (ax_heap .arraylength a b d sv h) := by
  dsimp only [tx_heap]
  split
  · rename_i o r
    obtain ⟨xs, rfl, h2⟩ := tx_gs_r hs
    split
    · rename_i c
      refine tx_Ws (sv := .inl ((ax_kd h o).2 : Int) :: xs) (h := h) ?_ ⟨?_, h2⟩ g
      · show (if (ax_kd h o).1 < 4 then some (.inl ((ax_kd h o).2 : Int) :: xs, h) else none) = _
        rw [if_pos (by rw [tx_gh_kd g]; exact c)]
      · rw [tx_gh_kd g]; exact rfl
    · exact tx_Wn
  · exact tx_Wn
theorem tx_ldE1 (hs : tx_gs st sv) (g : tx_gh t h) (P : Prop) (inst : Decidable P) (b : Nat) (d : Int) : tx_W (some ((@ite _ P inst (.inr (.inr (some b))) (.inl (.inl d))) :: st, t)) (some ((@ite _ P inst (.inr (.inr (some b))) (.inl d)) :: sv, h)) := by
  refine tx_Ws rfl ⟨?_, hs⟩ g
  split
  · exact rfl
  · exact rfl
theorem tx_ldE2 (hs : tx_gs st sv) (g : tx_gh t h) (P : Prop) (inst : Decidable P) (b : Nat) (d : Int) : tx_W (some ((@ite _ P inst (.inl (.inl d)) (.inr (.inr (some b)))) :: st, t)) (some ((@ite _ P inst (.inl d) (.inr (.inr (some b)))) :: sv, h)) := by
  refine tx_Ws rfl ⟨?_, hs⟩ g
  split
  · exact rfl
  · exact rfl
theorem tx_newE (hs : tx_gs st sv) (g : tx_gh t h) (k a b : Nat) (d : Int) : tx_W (tx_heap (.new k) a b d st t) (ax_heap (.new k) a b d sv h) := by
  show tx_W (if a = 0 then some (.inr (.inr (some (27 + t.1))) :: st, tx_new t (100 + b, tb_N b) (tb_ci.getD b (0, 0, 0, [])).2.2.1) else some (.inr (.inr (some (27 + t.1))) :: st, tx_newx t b)) (if a = 0 then some (.inr (.inr (some (27 + h.1))) :: sv, ax_new h (100 + b, tb_N b) (tb_ci.getD b (0, 0, 0, [])).2.2.1) else some (.inr (.inr (some (27 + h.1))) :: sv, ax_newx h b))
  split
  · exact tx_Ws rfl ⟨by rw [g.1]; exact rfl, hs⟩ (tx_gh_new g _ _)
  · exact tx_Ws rfl ⟨by rw [g.1]; exact rfl, hs⟩ (tx_gh_newx g _)
theorem tx_newaE (hs : tx_gs st sv) (g : tx_gh t h) (k : ArrayType) (a b : Nat) (d : Int) : tx_W (tx_heap (.newarray k) a b d st t) (ax_heap (.newarray k) a b d sv h) := by
  dsimp only [tx_heap]
  split
  · rename_i n r
    obtain ⟨xs, rfl, h2⟩ := tx_gs_k hs
    split
    · rename_i c
      refine tx_Ws (sv := .inr (.inr (some (27 + h.1))) :: xs) (h := ax_new h (a, n.toNat) n.toNat) ?_ ⟨by rw [g.1]; exact rfl, h2⟩ (tx_gh_new g _ _)
      show (if 0 ≤ n ∧ n ≤ 1000000 then some (.inr (.inr (some (27 + h.1))) :: xs, ax_new h (a, n.toNat) n.toNat) else none) = _
      rw [if_pos c]
    · exact tx_Wn
  · exact tx_Wn
theorem tx_iastE (hs : tx_gs st sv) (g : tx_gh t h) (a b : Nat) (d : Int) : tx_W (tx_heap .iastore a b d st t) (ax_heap .iastore a b d sv h) := by
  dsimp only [tx_heap]
  split
  · obtain ⟨x, xs, rfl, h1, h2⟩ := tx_gs_i hs
    exact tx_astE h2 g _ false h1
  · exact tx_Wn
theorem tx_bastE (hs : tx_gs st sv) (g : tx_gh t h) (a b : Nat) (d : Int) : tx_W (tx_heap .bastore a b d st t) (ax_heap .bastore a b d sv h) := by
  dsimp only [tx_heap]
  split
  · obtain ⟨x, xs, rfl, h1, h2⟩ := tx_gs_i hs
    exact tx_astE h2 g _ false h1
  · exact tx_Wn
theorem tx_lastE (hs : tx_gs st sv) (g : tx_gh t h) (a b : Nat) (d : Int) : tx_W (tx_heap .lastore a b d st t) (ax_heap .lastore a b d sv h) := by
  dsimp only [tx_heap]
  split
  · obtain ⟨x, xs, rfl, h1, h2⟩ := tx_gs_l hs
    exact tx_astE h2 g _ true h1
  · exact tx_Wn
set_option maxHeartbeats 4000000 in
theorem tx_heapE (hs : tx_gs st sv) (g : tx_gh t h) (i : Instr) (a b : Nat) (d : Int) : tx_W (tx_heap i a b d st t) (ax_heap i a b d sv h) := by
  cases i <;> first
    | exact tx_Wn
    | exact tx_getfE hs g _ a b d
    | exact tx_putfE hs g _ a b d
    | exact tx_ldE1 hs g _ _ b d
    | exact tx_ldE2 hs g _ _ b d
    | exact tx_Ws rfl ⟨rfl, hs⟩ g
    | exact tx_alenE hs g a b d
    | exact tx_aldE hs g (fun t => t == 0)
    | exact tx_aldE hs g (fun t => t == 1 || t == 3)
    | exact tx_aldE hs g (fun t => t == 2)
    | exact tx_iastE hs g a b d
    | exact tx_bastE hs g a b d
    | exact tx_lastE hs g a b d
    | exact tx_newE hs g _ a b d
    | exact tx_newaE hs g _ a b d
end TXW
/-! calls -/
theorem tx_popE2 : ∀ (n : Nat) {st : List tx_V} {sv : List ax_V} {as r : List tx_V}, tx_gs st sv → tx_pop n st = some (as, r) → ∃ av q, ax_pop n sv = some (av, q) ∧ tx_gs as av ∧ tx_gs r q := by
  intro n
  induction n with
  | zero =>
    intro st sv as r h e
    cases e
    exact ⟨[], sv, rfl, trivial, h⟩
  | succ n ih =>
    intro st sv as r h e
    cases st with
    | nil => cases e
    | cons v st =>
      obtain ⟨x, xs, rfl, h1, h2⟩ := tx_gs_c h
      simp only [tx_pop] at e
      split at e
      · rename_i as' q' e2
        cases e
        obtain ⟨av, q, g1, g2, g3⟩ := ih h2 e2
        refine ⟨av ++ [x], q, ?_, tx_gs_app g2 ⟨h1, trivial⟩, g3⟩
        simp only [ax_pop, g1]
      · cases e
theorem tx_argsE {mode y n : Nat} {st : List tx_V} {sv : List ax_V} {t : tx_H} {h : ax_H} {as r : List tx_V} (hs : tx_gs st sv) (g : tx_gh t h) (e : tx_args mode y n st t = some (as, r)) : ∃ av q, ax_args mode y n sv h = some (av, q) ∧ tx_gs as av ∧ tx_gs r q := by
  unfold tx_args at e
  split at e
  · cases e
  · rename_i as' r' e2
    obtain ⟨av, q, g1, g2, g3⟩ := tx_popE2 n hs e2
    unfold ax_args
    rw [g1]
    dsimp only
    split at e
    · rename_i hm
      cases e
      rw [if_pos hm]
      exact ⟨av, q, rfl, g2, g3⟩
    · rename_i hm
      rw [if_neg hm]
      split at e
      · rename_i o q'
        obtain ⟨xs, rfl, h4⟩ := tx_gs_r g3
        split at e
        · rename_i c
          cases e
          refine ⟨.inr (.inr (some o)) :: av, xs, ?_, ⟨rfl, g2⟩, h4⟩
          dsimp only
          rw [if_pos (by rw [tx_gh_kd g]; exact c)]
        · cases e
      · cases e
theorem tx_copyE {st : List tx_V} {sv : List ax_V} {t : tx_H} {h : ax_H} (hs : tx_gs st sv) (g : tx_gh t h) : tx_W (tx_copy st t) (ax_copy sv h) := by
  unfold tx_copy
  split
  · rename_i n dp u sp o r
    obtain ⟨xs, rfl, h1⟩ := tx_gs_k hs
    obtain ⟨xs, rfl, h2⟩ := tx_gs_k h1
    obtain ⟨xs, rfl, h3⟩ := tx_gs_r h2
    obtain ⟨xs, rfl, h4⟩ := tx_gs_k h3
    obtain ⟨xs, rfl, h5⟩ := tx_gs_r h4
    split
    · rename_i c
      refine tx_Ws (sv := xs) (h := (h.1, h.2.1, h.2.2.1, (fun b => if b = u then ax_cpy (ax_nu h o) (ax_nu h u) sp.toNat dp.toNat n.toNat else h.2.2.2.1 b), h.2.2.2.2)) ?_ h5 ⟨g.1, g.2.1, g.2.2.1, fun b k => ?_, g.2.2.2.2⟩
      · unfold ax_copy
        dsimp only
        rw [if_pos (by rw [tx_gh_kd g, tx_gh_kd g]; exact c)]
      · show tx_gi ((if b = u then tx_cpy (tx_nu t o) (tx_nu t u) sp.toNat dp.toNat n.toNat else t.2.2.2.1 b) k) ((if b = u then ax_cpy (ax_nu h o) (ax_nu h u) sp.toNat dp.toNat n.toNat else h.2.2.2.1 b) k)
        split
        · unfold tx_cpy ax_cpy
          split
          · exact tx_gh_nu g _ _
          · exact tx_gh_nu g _ _
        · exact g.2.2.2.1 b k
    · exact tx_Wn
  · exact tx_Wn
theorem tx_throwE {μ : ax_M} {pc x : Nat} {st : List tx_V} {sv : List ax_V} {t t' : tx_H} {h : ax_H} {o : tx_O} (hs : tx_gs st sv) (g : tx_gh t h) (e : tx_throw μ pc x st t = some (o, t')) : ∃ q h', ax_throw μ pc x sv h = some (q, h') ∧ tx_gO o q ∧ tx_gh t' h' := by
  unfold tx_throw at e
  split at e
  · rename_i o1 o2 o3 r
    obtain ⟨xs, rfl, h1⟩ := tx_gs_r hs
    obtain ⟨xs, rfl, h2⟩ := tx_gs_r h1
    obtain ⟨xs, rfl, h3⟩ := tx_gs_r h2
    split at e
    · rename_i c
      cases e
      refine ⟨.inr o2, ax_sete h o2 (2 * x + 2), ?_, rfl, tx_gh_sete g _ _⟩
      unfold ax_throw
      dsimp only
      rw [if_pos]
      rw [tx_gh_ex g, g.1, tx_wtE h3]
      exact c
    · cases e
  · cases e
def tx_gS (a : tx_S) (b : ax_S) : Prop := match a with
  | .inl (pc, ls, st, t) => ∃ ms sv h, b = .inl (pc, ms, sv, h) ∧ tx_gl ls ms ∧ tx_gs st sv ∧ tx_gh t h
  | .inr (.inl (o, t)) => ∃ q h, b = .inr (.inl (q, h)) ∧ tx_gO o q ∧ tx_gh t h
  | .inr (.inr (y, as, r)) => ∃ av q, b = .inr (.inr (y, av, q)) ∧ tx_gs as av ∧ tx_gs r q
section TXR
variable {st : List tx_V} {sv : List ax_V} {ls : tx_L} {ms : ax_L} {t : tx_H} {h : ax_H}
theorem tx_invE {μ : ax_M} {a b : Nat} {d : Int} {pc : Nat} {r : tx_S} (hl : tx_gl ls ms) (hs : tx_gs st sv) (g : tx_gh t h) (e : tx_inv μ a b d pc ls st t = some r) : ∃ q, ax_inv μ a b d pc ms sv h = some q ∧ tx_gS r q := by
  unfold tx_inv at e
  unfold ax_inv
  split at e
  · rename_i ha
    rw [if_pos ha]
    split at e
    · rename_i o r'
      obtain ⟨xs, rfl, h1⟩ := tx_gs_r hs
      split at e
      · rename_i c
        cases e
        refine ⟨.inl (pc + 3, ms, xs, h), ?_, ms, xs, h, rfl, hl, h1, g⟩
        dsimp only
        rw [if_pos (by rw [tx_wtE h1]; exact c)]
      · cases e
    · cases e
  · rename_i ha
    rw [if_neg ha]
    split at e
    · rename_i hb
      rw [if_pos hb]
      split at e
      · rename_i st' t' e2
        obtain ⟨sv', h', k1, k2, k3⟩ := tx_copyE hs g st' t' e2
        rw [k1]
        split at e
        · rename_i c
          cases e
          refine ⟨.inl (pc + 3, ms, sv', h'), ?_, ms, sv', h', rfl, hl, k2, k3⟩
          dsimp only
          rw [if_pos (by rw [tx_wtE k2]; exact c)]
        · cases e
      · cases e
    · rename_i hb
      rw [if_neg hb]
      split at e
      · rename_i hc
        rw [if_pos hc]
        split at e
        · rename_i r' e2
          cases e
          obtain ⟨o, t'⟩ := r'
          obtain ⟨q, h', k1, k2, k3⟩ := tx_throwE hs g e2
          rw [k1]
          exact ⟨_, rfl, q, h', rfl, k2, k3⟩
        · cases e
      · rename_i hc
        rw [if_neg hc]
        split at e
        · cases e
        · rename_i as r' e2
          obtain ⟨av, q, k1, k2, k3⟩ := tx_argsE hs g e2
          rw [k1]
          split at e
          · rename_i c
            cases e
            refine ⟨.inr (.inr (b, av, q)), ?_, av, q, rfl, k2, k3⟩
            dsimp only
            rw [if_pos (by rw [tx_wtE k3]; exact c)]
          · cases e
theorem tx_rtnE {μ : ax_M} {i : Instr} {v : Option tx_V} (hs : tx_gs st sv) (e : tx_rtn μ i st = some v) : ∃ w, ax_rtn μ i sv = some w ∧ tx_gO (.inl v) (.inl w) := by
  unfold tx_rtn at e
  split at e
  · split at e
    · rename_i z
      split at e
      · rename_i c
        cases e
        obtain ⟨xs, rfl, h1⟩ := tx_gs_k hs
        rw [tx_gs_n h1]
        exact ⟨some (.inl z), (show (if ax_rok μ.2.2.1 z = true then some (some (Sum.inl z : ax_V)) else none) = _ by rw [if_pos c]), .inl z, rfl, rfl⟩
      · cases e
    · rename_i q
      split at e
      · rename_i c
        cases e
        obtain ⟨x, xs, rfl, h0, h1⟩ := tx_gs_i hs
        rw [tx_gs_n h1]
        exact ⟨some (.inl x), (show (if ax_rok μ.2.2.1 x = true then some (some (Sum.inl x : ax_V)) else none) = _ by rw [c]; rfl), .inl x, rfl, h0⟩
      · cases e
    · cases e
  · split at e
    · rename_i z
      split at e
      · rename_i c
        cases e
        obtain ⟨x, xs, rfl, h0, h1⟩ := tx_gs_l hs
        rw [tx_gs_n h1]
        exact ⟨some (.inr (.inl x)), (show (if μ.2.2.1 = 2 then some (some (Sum.inr (Sum.inl x) : ax_V)) else none) = _ by rw [if_pos c]), .inr (.inl x), rfl, h0⟩
      · cases e
    · cases e
  · split at e
    · split at e
      · rename_i c
        cases e
        rw [tx_gs_n hs]
        exact ⟨none, (show (if μ.2.2.1 = 0 then some (none : Option ax_V) else none) = _ by rw [if_pos c]), rfl⟩
      · cases e
    · cases e
  · cases e
theorem tx_doE {μ : ax_M} {i : Instr} {a b : Nat} {d : Int} {pc : Nat} {r : tx_S} (hl : tx_gl ls ms) (hs : tx_gs st sv) (g : tx_gh t h) (e : tx_do μ i a b d pc ls st t = some r) : ∃ q, ax_do μ i a b d pc ms sv h = some q ∧ tx_gS r q := by
  unfold tx_do at e
  unfold ax_do
  split at e
  · rename_i hg
    rw [hg]
    split at e
    · rename_i ls' st' e2
      cases e
      obtain ⟨ms', sv', k1, k2, k3⟩ := tx_pureE hl hs i ls' st' e2
      rw [k1]
      exact ⟨_, rfl, ms', sv', h, rfl, k2, k3, g⟩
    · cases e
  · rename_i hg
    rw [hg]
    split at e
    · rename_i pc' st' e2
      cases e
      obtain ⟨sv', k1, k2⟩ := tx_jumpE hs i pc pc' st' e2
      rw [k1]
      exact ⟨_, rfl, ms, sv', h, rfl, hl, k2, g⟩
    · cases e
  · rename_i hg
    rw [hg]
    split at e
    · rename_i st' t' e2
      cases e
      obtain ⟨sv', h', k1, k2, k3⟩ := tx_heapE hs g i a b d st' t' e2
      rw [k1]
      exact ⟨_, rfl, ms, sv', h', rfl, hl, k2, k3⟩
    · cases e
  · rename_i hg
    rw [hg]
    exact tx_invE hl hs g e
  · rename_i n0 n1 n2 n3
    split at e
    · rename_i v e2
      cases e
      obtain ⟨w, k1, k2⟩ := tx_rtnE hs e2
      split
      · rename_i q; exact absurd q n0
      · rename_i q; exact absurd q n1
      · rename_i q; exact absurd q n2
      · rename_i q; exact absurd q n3
      · rw [k1]
        exact ⟨_, rfl, .inl w, h, rfl, k2, g⟩
    · cases e
theorem tx_stepE {μ : ax_M} {pc : Nat} {r : tx_S} (hl : tx_gl ls ms) (hs : tx_gs st sv) (g : tx_gh t h) (e : tx_step μ pc ls st t = some r) : ∃ q, ax_step μ pc ms sv h = some q ∧ tx_gS r q := by
  unfold tx_step at e
  unfold ax_step
  split at e
  · cases e
  · rename_i i a b k d hat
    rw [hat]
    exact tx_doE hl hs g e
end TXR
def tx_C (F : Nat → List tx_V → tx_H → Option (tx_O × tx_H)) (f : Nat → List ax_V → ax_H → Option (ax_O × ax_H)) : Prop := ∀ y as t o t' av h, F y as t = some (o, t') → tx_gs as av → tx_gh t h → ∃ q h', f y av h = some (q, h') ∧ tx_gO o q ∧ tx_gh t' h'
theorem tx_runE {F : Nat → List tx_V → tx_H → Option (tx_O × tx_H)} {f : Nat → List ax_V → ax_H → Option (ax_O × ax_H)} (hC : tx_C F f) (μ : ax_M) : ∀ (n pc : Nat) (ls : tx_L) (ms : ax_L) (st : List tx_V) (sv : List ax_V) (t t' : tx_H) (h : ax_H) (o : tx_O), tx_run F μ n pc ls st t = some (o, t') → tx_gl ls ms → tx_gs st sv → tx_gh t h →
    ∃ q h', ax_run f μ n pc ms sv h = some (q, h') ∧ tx_gO o q ∧ tx_gh t' h' := by
  intro n
  induction n with
  | zero => intro pc ls ms st sv t t' h o e; cases e
  | succ n ih =>
    intro pc ls ms st sv t t' h o e hl hs g
    simp only [tx_run] at e
    simp only [ax_run]
    split at e
    · cases e
    · rename_i pc' ls' st' t2 e2
      obtain ⟨q, k1, ms', sv', h2, rfl, k2, k3, k4⟩ := tx_stepE hl hs g e2
      rw [k1]
      exact ih pc' ls' ms' st' sv' t2 t' h2 o e k2 k3 k4
    · rename_i r e2
      obtain ⟨o2, t2⟩ := r
      cases e
      obtain ⟨q, k1, p, h2, rfl, k2, k3⟩ := tx_stepE hl hs g e2
      rw [k1]
      exact ⟨p, h2, rfl, k2, k3⟩
    · rename_i y as r e2
      obtain ⟨q, k1, av, qr, rfl, k2, k3⟩ := tx_stepE hl hs g e2
      rw [k1]
      dsimp only
      split at e
      · cases e
      · rename_i v t2 e3
        obtain ⟨p, h2, c1, c2, c3⟩ := hC y as t (.inl v) t2 av h e3 k2 g
        rw [c1]
        cases v with
        | none =>
          have c2 : p = .inl none := c2
          subst c2
          exact ih (pc + 3) ls ms _ _ t2 t' h2 o e hl k3 c3
        | some v =>
          obtain ⟨w, rfl, c4⟩ := c2
          exact ih (pc + 3) ls ms _ _ t2 t' h2 o e hl ⟨c4, k3⟩ c3
      · rename_i x t2 e3
        obtain ⟨p, h2, c1, c2, c3⟩ := hC y as t (.inr x) t2 av h e3 k2 g
        have c2 : p = .inr x := c2
        subst c2
        rw [c1]
        dsimp only
        rw [tx_gh_ex c3]
        split at e
        · rename_i tt e4
          rw [e4]
          exact ih tt ls ms _ _ t2 t' h2 o e hl ⟨rfl, trivial⟩ c3
        · rename_i e4
          rw [e4]
          dsimp only
          split at e
          · rename_i hh
            cases e
            rw [if_pos hh]
            exact ⟨.inr x, h2, rfl, rfl, c3⟩
          · cases e
theorem tx_evE (F : Nat) : ∀ n, tx_C (tx_ev F n) (ax_ev F n) := by
  intro n
  induction n with
  | zero => intro y as t o t' av h e; cases e
  | succ n ih =>
    intro y as t o t' av h e hs g
    simp only [tx_ev] at e
    simp only [ax_ev]
    split at e
    · cases e
    · rename_i μ hμ
      have hE := tx_gl_ent hs
      have hlen := tx_gl_len hE
      rw [hμ]
      dsimp only
      rw [hlen]
      split at e
      · rename_i c
        rw [if_pos c]
        exact tx_runE ih μ F 0 _ _ [] [] t t' h o e (tx_gl_app hE (tx_gl_rep _)) trivial g
      · cases e
