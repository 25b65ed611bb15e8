/-! WHAT THE INTERVALS SAY HOLDS OF THE ABSTRACT MACHINE. -/
def tx_gi (t : tx_I) (x : Int) : Prop := match t with
  | .inl z => x = z
  | .inr q => (∀ l, q.1 = some l → l ≤ x) ∧ (∀ u, q.2.1 = some u → x ≤ u) ∧ ∀ k, q.2.2 = some k → ax_iand x 15 = k
theorem tx_gtop (x : Int) : tx_gi tx_top x := ⟨fun _ h => (by cases h), fun _ h => (by cases h), fun _ h => (by cases h)⟩
def tx_gv (t : tx_V) (v : ax_V) : Prop := match t with
  | .inl a => (match v with
    | .inl x => tx_gi a x
    | _ => False)
  | .inr (.inl a) => (match v with
    | .inr (.inl x) => tx_gi a x
    | _ => False)
  | .inr (.inr a) => v = .inr (.inr a)
def tx_gs : List tx_V → List ax_V → Prop
  | [], [] => True
  | t :: ts, x :: xs => tx_gv t x ∧ tx_gs ts xs
  | _, _ => False
def tx_go (a : Option tx_V) (b : Option ax_V) : Prop := match a with
  | none => True
  | some t => (match b with
    | none => False
    | some v => tx_gv t v)
def tx_gl : tx_L → ax_L → Prop
  | [], [] => True
  | t :: ts, x :: xs => tx_go t x ∧ tx_gl ts xs
  | _, _ => False
def tx_gh (t : tx_H) (h : ax_H) : Prop := h.1 = t.1 ∧ h.2.1 = t.2.1 ∧ h.2.2.1 = t.2.2.1 ∧ (∀ a j, tx_gi (t.2.2.2.1 a j) (h.2.2.2.1 a j)) ∧ h.2.2.2.2 = t.2.2.2.2
def tx_gO (t : tx_O) (o : ax_O) : Prop := match t with
  | .inl none => o = .inl none
  | .inl (some v) => ∃ w, o = .inl (some w) ∧ tx_gv v w
  | .inr x => o = .inr x
theorem tx_gv_i {a : tx_I} {v : ax_V} (h : tx_gv (.inl a) v) : ∃ x, v = .inl x ∧ tx_gi a x := by
  rcases v with x | x
  · exact ⟨x, rfl, h⟩
  · exact False.elim h
theorem tx_gv_k {a : Int} {v : ax_V} (h : tx_gv (.inl (.inl a)) v) : v = .inl a := by
  obtain ⟨x, rfl, e⟩ := tx_gv_i h
  have e : x = a := e
  rw [e]
theorem tx_gv_l {a : tx_I} {v : ax_V} (h : tx_gv (.inr (.inl a)) v) : ∃ x, v = .inr (.inl x) ∧ tx_gi a x := by
  rcases v with x | x | x
  · exact False.elim h
  · exact ⟨x, rfl, h⟩
  · exact False.elim h
theorem tx_gs_n {sv : List ax_V} (h : tx_gs [] sv) : sv = [] := by
  cases sv with
  | nil => rfl
  | cons x xs => exact False.elim h
theorem tx_gs_c {t : tx_V} {ts : List tx_V} {sv : List ax_V} (h : tx_gs (t :: ts) sv) : ∃ x xs, sv = x :: xs ∧ tx_gv t x ∧ tx_gs ts xs := by
  cases sv with
  | nil => exact False.elim h
  | cons x xs => exact ⟨x, xs, rfl, h.1, h.2⟩
theorem tx_gs_i {a : tx_I} {ts : List tx_V} {sv : List ax_V} (h : tx_gs (.inl a :: ts) sv) : ∃ x xs, sv = .inl x :: xs ∧ tx_gi a x ∧ tx_gs ts xs := by
  obtain ⟨v, xs, rfl, h1, h2⟩ := tx_gs_c h
  obtain ⟨x, rfl, h3⟩ := tx_gv_i h1
  exact ⟨x, xs, rfl, h3, h2⟩
theorem tx_gs_k {a : Int} {ts : List tx_V} {sv : List ax_V} (h : tx_gs (.inl (.inl a) :: ts) sv) : ∃ xs, sv = .inl a :: xs ∧ tx_gs ts xs := by
  obtain ⟨v, xs, rfl, h1, h2⟩ := tx_gs_c h
  exact ⟨xs, by rw [tx_gv_k h1], h2⟩
theorem tx_gs_l {a : tx_I} {ts : List tx_V} {sv : List ax_V} (h : tx_gs (.inr (.inl a) :: ts) sv) : ∃ x xs, sv = .inr (.inl x) :: xs ∧ tx_gi a x ∧ tx_gs ts xs := by
  obtain ⟨v, xs, rfl, h1, h2⟩ := tx_gs_c h
  obtain ⟨x, rfl, h3⟩ := tx_gv_l h1
  exact ⟨x, xs, rfl, h3, h2⟩
theorem tx_gs_r {a : Option Nat} {ts : List tx_V} {sv : List ax_V} (h : tx_gs (.inr (.inr a) :: ts) sv) : ∃ xs, sv = .inr (.inr a) :: xs ∧ tx_gs ts xs := by
  obtain ⟨v, xs, rfl, h1, h2⟩ := tx_gs_c h
  have h1 : v = .inr (.inr a) := h1
  exact ⟨xs, by rw [h1], h2⟩
theorem tx_catE {t : tx_V} {v : ax_V} (h : tx_gv t v) : ax_cat v = tx_cat t := by
  rcases t with a | a | a
  · obtain ⟨x, rfl, -⟩ := tx_gv_i h
    rfl
  · obtain ⟨x, rfl, -⟩ := tx_gv_l h
    rfl
  · have h : v = .inr (.inr a) := h
    rw [h]; rfl
theorem tx_wtE : ∀ {st : List tx_V} {sv : List ax_V}, tx_gs st sv → ax_wt sv = tx_wt st := by
  intro st
  induction st with
  | nil => intro sv h; rw [tx_gs_n h]; rfl
  | cons t ts ih =>
    intro sv h
    obtain ⟨x, xs, rfl, h1, h2⟩ := tx_gs_c h
    have := ih h2
    unfold ax_wt tx_wt at this ⊢
    rw [List.map_cons, List.map_cons, List.sum_cons, List.sum_cons, this, tx_catE h1]
theorem tx_gs_app : ∀ {a c : List tx_V} {b d : List ax_V}, tx_gs a b → tx_gs c d → tx_gs (a ++ c) (b ++ d) := by
  intro a
  induction a with
  | nil => intro c b d h g; rw [tx_gs_n h]; exact g
  | cons t ts ih =>
    intro c b d h g
    obtain ⟨x, xs, rfl, h1, h2⟩ := tx_gs_c h
    exact ⟨h1, ih h2 g⟩
/-! locals -/
theorem tx_gl_len : ∀ {ls : tx_L} {ms : ax_L}, tx_gl ls ms → ms.length = ls.length := by
  intro ls
  induction ls with
  | nil => intro ms h; cases ms with
    | nil => rfl
    | cons _ _ => exact False.elim h
  | cons t ts ih => intro ms h; cases ms with
    | nil => exact False.elim h
    | cons x xs => rw [List.length_cons, List.length_cons, ih h.2]
theorem tx_gl_get : ∀ {ls : tx_L} {ms : ax_L} {i : Nat} {t : tx_V}, tx_gl ls ms → ls[i]? = some (some t) → ∃ v, ms[i]? = some (some v) ∧ tx_gv t v := by
  intro ls
  induction ls with
  | nil => intro ms i t _ h; simp at h
  | cons a r ih => intro ms i t h g; cases ms with
    | nil => exact False.elim h
    | cons x xs =>
      cases i with
      | zero =>
        have g : a = some t := by simpa using g
        subst g
        cases x with
        | none => exact False.elim h.1
        | some v => exact ⟨v, rfl, h.1⟩
      | succ i =>
        have g : r[i]? = some (some t) := by simpa using g
        obtain ⟨v, h1, h2⟩ := ih h.2 g
        exact ⟨v, by simpa using h1, h2⟩
theorem tx_gl_set : ∀ {ls : tx_L} {ms : ax_L} {i : Nat} {a : Option tx_V} {b : Option ax_V}, tx_gl ls ms → tx_go a b → tx_gl (ls.set i a) (ms.set i b) := by
  intro ls
  induction ls with
  | nil => intro ms i a b h _; cases ms with
    | nil => exact trivial
    | cons _ _ => exact False.elim h
  | cons t ts ih => intro ms i a b h g; cases ms with
    | nil => exact False.elim h
    | cons x xs => cases i with
      | zero => exact ⟨g, h.2⟩
      | succ i => exact ⟨h.1, ih h.2 g⟩
theorem tx_gl_none : ∀ {ls : tx_L} {ms : ax_L} {i : Nat}, tx_gl ls ms → ls[i]? = some none → tx_gl ls (ms.set i none) := by
  intro ls
  induction ls with
  | nil => intro ms i _ h; simp at h
  | cons t ts ih => intro ms i h g; cases ms with
    | nil => exact False.elim h
    | cons x xs => cases i with
      | zero =>
        have g : t = none := by simpa using g
        subst g
        exact ⟨trivial, h.2⟩
      | succ i =>
        have g : ts[i]? = some none := by simpa using g
        exact ⟨h.1, ih h.2 g⟩
theorem tx_gl_app : ∀ {a c : tx_L} {b d : ax_L}, tx_gl a b → tx_gl c d → tx_gl (a ++ c) (b ++ d) := by
  intro a
  induction a with
  | nil => intro c b d h g; cases b with
    | nil => exact g
    | cons _ _ => exact False.elim h
  | cons t ts ih => intro c b d h g; cases b with
    | nil => exact False.elim h
    | cons x xs => exact ⟨h.1, ih h.2 g⟩
theorem tx_gl_rep (n : Nat) : tx_gl (List.replicate n none) (List.replicate n none) := by
  induction n with
  | zero => exact trivial
  | succ n ih => exact ⟨trivial, ih⟩
theorem tx_gl_ent : ∀ {as : List tx_V} {av : List ax_V}, tx_gs as av → tx_gl (tx_ent as) (ax_ent av) := by
  intro as
  induction as with
  | nil => intro av h; rw [tx_gs_n h]; exact trivial
  | cons t ts ih =>
    intro av h
    obtain ⟨x, xs, rfl, h1, h2⟩ := tx_gs_c h
    have e := tx_catE h1
    simp only [tx_ent, ax_ent, e]
    split
    · exact ⟨h1, trivial, ih h2⟩
    · exact ⟨h1, ih h2⟩
theorem tx_gl_cut {ls : tx_L} {ms : ax_L} (h : tx_gl ls ms) (i : Nat) : tx_gl (tx_cut ls i) (ax_cut ms i) := by
  unfold tx_cut ax_cut
  cases i with
  | zero => exact h
  | succ j =>
    dsimp only
    cases e : ls[j]? with
    | none =>
      have e2 : ms[j]? = none := by
        rw [List.getElem?_eq_none_iff] at e ⊢
        rw [tx_gl_len h]; exact e
      rw [e2]
      exact h
    | some q => cases q with
      | none =>
        dsimp only
        split
        · exact tx_gl_none h e
        · exact h
      | some t =>
        obtain ⟨v, e2, hv⟩ := tx_gl_get h e
        rw [e2]
        rcases t with a | a | a
        · obtain ⟨x, rfl, -⟩ := tx_gv_i hv
          exact h
        · obtain ⟨x, rfl, -⟩ := tx_gv_l hv
          exact tx_gl_set h trivial
        · have hv : v = .inr (.inr a) := hv
          subst hv
          exact h
theorem tx_gl_st1 {ls : tx_L} {ms : ax_L} (h : tx_gl ls ms) (i : Nat) {t : tx_V} {v : ax_V} (hv : tx_gv t v) : tx_gl (tx_st1 ls i t) (ax_st1 ms i v) := tx_gl_set (tx_gl_cut h i) hv
theorem tx_gl_st2 {ls : tx_L} {ms : ax_L} (h : tx_gl ls ms) (i : Nat) {t : tx_V} {v : ax_V} (hv : tx_gv t v) : tx_gl (tx_st2 ls i t) (ax_st2 ms i v) := tx_gl_set (tx_gl_set (tx_gl_cut h i) hv) trivial
theorem tx_ldE {ls : tx_L} {ms : ax_L} (h : tx_gl ls ms) {i : Nat} {t : tx_V} (e : tx_ld ls i = some t) : ∃ v, ax_ld ms i = some v ∧ tx_gv t v := by
  unfold tx_ld at e
  split at e
  · rename_i w g
    cases e
    obtain ⟨v, h1, h2⟩ := tx_gl_get h g
    refine ⟨v, ?_, h2⟩
    unfold ax_ld
    rw [h1]
  · cases e
/-! instructions without heap and jump -/
def tx_P (r : Option (tx_L × List tx_V)) (q : Option (ax_L × List ax_V)) : Prop := ∀ ls st, r = some (ls, st) → ∃ ms sv, q = some (ms, sv) ∧ tx_gl ls ms ∧ tx_gs st sv
theorem tx_Pn {q : Option (ax_L × List ax_V)} : tx_P none q := fun _ _ h => by cases h
theorem tx_Ps {ls : tx_L} {st : List tx_V} {ms : ax_L} {sv : List ax_V} {q : Option (ax_L × List ax_V)} (e : q = some (ms, sv)) (hl : tx_gl ls ms) (hs : tx_gs st sv) : tx_P (some (ls, st)) q := fun _ _ h => by cases h; exact ⟨ms, sv, e, hl, hs⟩
theorem tx_f1E (f : Int → Int) {t : tx_I} {x : Int} (h : tx_gi t x) : tx_gi (tx_f1 f t) (f x) := by
  cases t with
  | inl z => have h : x = z := h; rw [h]; exact rfl
  | inr q => exact tx_gtop _
theorem tx_f2E (f : Int → Int → Int) {t u : tx_I} {x y : Int} (h : tx_gi t x) (g : tx_gi u y) : tx_gi (tx_f2 f t u) (f x y) := by
  cases t with
  | inl z =>
    have h : x = z := h
    cases u with
    | inl w => have g : y = w := g; rw [h, g]; exact rfl
    | inr q => exact tx_gtop _
  | inr q => exact tx_gtop _
theorem tx_andE {t u : tx_I} {x y : Int} (h : tx_gi t x) (g : tx_gi u y) : tx_gi (tx_and t u) (ax_iand x y) := by
  cases u with
  | inl w =>
    have g : y = w := g
    cases t with
    | inl z => have h : x = z := h; rw [h, g]; exact rfl
    | inr q =>
      obtain ⟨a, b, c⟩ := q
      cases c with
      | none => exact tx_gtop _
      | some k =>
        show tx_gi (if w = 15 then .inl k else tx_top) _
        split
        · rename_i e
          rw [g, e]
          exact h.2.2 k rfl
        · exact tx_gtop _
  | inr q => exact tx_gtop _
theorem tx_hiE {t : tx_I} {x a : Int} (h : tx_gi t x) (e : tx_hi t = some a) : x ≤ a := by
  cases t with
  | inl z => have h : x = z := h; cases e; omega
  | inr q => exact h.2.1 a e
theorem tx_loE {t : tx_I} {x a : Int} (h : tx_gi t x) (e : tx_lo t = some a) : a ≤ x := by
  cases t with
  | inl z => have h : x = z := h; cases e; omega
  | inr q => exact h.1 a e
theorem tx_ltbE {t u : tx_I} {x y : Int} (h : tx_gi t x) (g : tx_gi u y) (e : tx_ltb t u = true) : x < y := by
  unfold tx_ltb at e
  split at e
  · rename_i a ea
    split at e
    · rename_i b eb
      have := tx_hiE h ea
      have := tx_loE g eb
      have := of_decide_eq_true e
      omega
    · cases e
  · cases e
theorem tx_lebE {t u : tx_I} {x y : Int} (h : tx_gi t x) (g : tx_gi u y) (e : tx_leb t u = true) : x ≤ y := by
  unfold tx_leb at e
  split at e
  · rename_i a ea
    split at e
    · rename_i b eb
      have := tx_hiE h ea
      have := tx_loE g eb
      have := of_decide_eq_true e
      omega
    · cases e
  · cases e
theorem tx_cmp0E {t u : tx_I} {x y : Int} (h : tx_gi t x) (g : tx_gi u y) : tx_gi (tx_cmp0 t u) (ax_cmp x y) := by
  unfold tx_cmp0 ax_cmp
  split
  · rename_i e
    have := tx_ltbE h g e
    rw [if_neg (by omega), if_neg (by omega)]
    exact rfl
  · split
    · rename_i e
      have := tx_ltbE g h e
      rw [if_pos this]
      exact rfl
    · split
      · rename_i e
        have := tx_lebE g h e
        refine ⟨fun l q => ?_, fun l q => (by cases q), fun l q => (by cases q)⟩
        cases q
        split
        · decide
        · split
          · decide
          · omega
      · split
        · rename_i e
          have := tx_lebE h g e
          refine ⟨fun l q => (by cases q), fun l q => ?_, fun l q => (by cases q)⟩
          cases q
          split
          · omega
          · split
            · decide
            · decide
        · exact tx_gtop _
theorem tx_cmpE {t u : tx_I} {x y : Int} (h : tx_gi t x) (g : tx_gi u y) : tx_gi (tx_cmp t u) (ax_cmp x y) := by
  cases t with
  | inl z =>
    cases u with
    | inl w =>
      have h : x = z := h
      have g : y = w := g
      rw [h, g]
      exact rfl
    | inr q => exact tx_cmp0E h g
  | inr q => exact tx_cmp0E h g
section TXP
variable {ls : tx_L} {ms : ax_L} {st : List tx_V} {sv : List ax_V}
theorem tx_iloadE (hl : tx_gl ls ms) (hs : tx_gs st sv) (k : Nat) : tx_P (tx_iload ls st k) (ax_iload ms sv k) := by
  unfold tx_iload
  split
  · rename_i x e
    obtain ⟨v, h1, h2⟩ := tx_ldE hl e
    obtain ⟨z, rfl, h3⟩ := tx_gv_i h2
    exact tx_Ps (sv := .inl z :: sv) (by unfold ax_iload; rw [h1]) hl ⟨h3, hs⟩
  · exact tx_Pn
theorem tx_lloadE (hl : tx_gl ls ms) (hs : tx_gs st sv) (k : Nat) : tx_P (tx_lload ls st k) (ax_lload ms sv k) := by
  unfold tx_lload
  split
  · rename_i x e
    obtain ⟨v, h1, h2⟩ := tx_ldE hl e
    obtain ⟨z, rfl, h3⟩ := tx_gv_l h2
    exact tx_Ps (sv := .inr (.inl z) :: sv) (by unfold ax_lload; rw [h1]) hl ⟨h3, hs⟩
  · exact tx_Pn
theorem tx_aloadE (hl : tx_gl ls ms) (hs : tx_gs st sv) (k : Nat) : tx_P (tx_aload ls st k) (ax_aload ms sv k) := by
  unfold tx_aload
  split
  · rename_i x e
    obtain ⟨v, h1, h2⟩ := tx_ldE hl e
    have h2 : v = .inr (.inr x) := h2
    subst h2
    exact tx_Ps (sv := .inr (.inr x) :: sv) (by unfold ax_aload; rw [h1]) hl ⟨rfl, hs⟩
  · exact tx_Pn
theorem tx_istoreE (hl : tx_gl ls ms) (hs : tx_gs st sv) (k : Nat) : tx_P (tx_istore ls st k) (ax_istore ms sv k) := by
  unfold tx_istore
  split
  · rename_i x r
    obtain ⟨z, xs, rfl, h1, h2⟩ := tx_gs_i hs
    split
    · rename_i hk
      exact tx_Ps (by unfold ax_istore; dsimp only; rw [if_pos (by rw [tx_gl_len hl]; exact hk)]) (tx_gl_st1 hl k (t := .inl x) (v := .inl z) h1) h2
    · exact tx_Pn
  · exact tx_Pn
theorem tx_lstoreE (hl : tx_gl ls ms) (hs : tx_gs st sv) (k : Nat) : tx_P (tx_lstore ls st k) (ax_lstore ms sv k) := by
  unfold tx_lstore
  split
  · rename_i x r
    obtain ⟨z, xs, rfl, h1, h2⟩ := tx_gs_l hs
    split
    · rename_i hk
      exact tx_Ps (by unfold ax_lstore; dsimp only; rw [if_pos (by rw [tx_gl_len hl]; exact hk)]) (tx_gl_st2 hl k (t := .inr (.inl x)) (v := .inr (.inl z)) h1) h2
    · exact tx_Pn
  · exact tx_Pn
theorem tx_astoreE (hl : tx_gl ls ms) (hs : tx_gs st sv) (k : Nat) : tx_P (tx_astore ls st k) (ax_astore ms sv k) := by
  unfold tx_astore
  split
  · rename_i x r
    obtain ⟨xs, rfl, h2⟩ := tx_gs_r hs
    split
    · rename_i hk
      exact tx_Ps (by unfold ax_astore; dsimp only; rw [if_pos (by rw [tx_gl_len hl]; exact hk)]) (tx_gl_st1 hl k (t := .inr (.inr x)) (v := .inr (.inr x)) rfl) h2
    · exact tx_Pn
  · exact tx_Pn
theorem tx_iincE (hl : tx_gl ls ms) (hs : tx_gs st sv) (k : Nat) (n : Int) : tx_P (tx_iinc ls st k n) (ax_iinc ms sv k n) := by
  unfold tx_iinc
  split
  · rename_i x e
    obtain ⟨v, h1, h2⟩ := tx_ldE hl e
    obtain ⟨z, rfl, h3⟩ := tx_gv_i h2
    exact tx_Ps (by unfold ax_iinc; rw [h1]) (tx_gl_st1 hl k (t := .inl _) (v := .inl _) (tx_f1E (fun z => ax_w32 (z + n)) h3)) hs
  · exact tx_Pn
theorem tx_iiE {F : tx_I → tx_I → tx_I} {f : Int → Int → Int} (hF : ∀ {t u : tx_I} {x y : Int}, tx_gi t x → tx_gi u y → tx_gi (F t u) (f x y)) (hl : tx_gl ls ms) (hs : tx_gs st sv) : tx_P (tx_ii F ls st) (ax_ii f ms sv) := by
  unfold tx_ii
  split
  · rename_i y x r
    obtain ⟨y', xs, rfl, h1, h2⟩ := tx_gs_i hs
    obtain ⟨x', xs, rfl, h3, h4⟩ := tx_gs_i h2
    exact tx_Ps rfl hl ⟨hF h3 h1, h4⟩
  · exact tx_Pn
theorem tx_llE {f : Int → Int → Int} (hl : tx_gl ls ms) (hs : tx_gs st sv) : tx_P (tx_ll f ls st) (ax_ll f ms sv) := by
  unfold tx_ll
  split
  · obtain ⟨y, xs, rfl, h1, h2⟩ := tx_gs_l hs
    obtain ⟨x, xs, rfl, h3, h4⟩ := tx_gs_l h2
    exact tx_Ps rfl hl ⟨tx_f2E f h3 h1, h4⟩
  · exact tx_Pn
theorem tx_liE {f : Int → Int → Int} (hl : tx_gl ls ms) (hs : tx_gs st sv) : tx_P (tx_li f ls st) (ax_li f ms sv) := by
  unfold tx_li
  split
  · obtain ⟨y, xs, rfl, h1, h2⟩ := tx_gs_i hs
    obtain ⟨x, xs, rfl, h3, h4⟩ := tx_gs_l h2
    exact tx_Ps rfl hl ⟨tx_f2E f h3 h1, h4⟩
  · exact tx_Pn
theorem tx_i1E {f : Int → Int} (hl : tx_gl ls ms) (hs : tx_gs st sv) : tx_P (tx_i1 f ls st) (ax_i1 (fun x => .inl (f x)) ms sv) := by
  unfold tx_i1
  split
  · obtain ⟨x, xs, rfl, h1, h2⟩ := tx_gs_i hs
    exact tx_Ps rfl hl ⟨tx_f1E f h1, h2⟩
  · exact tx_Pn
theorem tx_i2lE (hl : tx_gl ls ms) (hs : tx_gs st sv) : tx_P (tx_i2l ls st) (ax_i1 (fun x => .inr (.inl x)) ms sv) := by
  unfold tx_i2l
  split
  · obtain ⟨x, xs, rfl, h1, h2⟩ := tx_gs_i hs
    exact tx_Ps rfl hl ⟨h1, h2⟩
  · exact tx_Pn
theorem tx_l2iE (hl : tx_gl ls ms) (hs : tx_gs st sv) : tx_P (tx_l2i ls st) (ax_l1 (fun x => .inl (ax_w32 x)) ms sv) := by
  unfold tx_l2i
  split
  · obtain ⟨x, xs, rfl, h1, h2⟩ := tx_gs_l hs
    exact tx_Ps rfl hl ⟨tx_f1E ax_w32 h1, h2⟩
  · exact tx_Pn
theorem tx_lcmpE (hl : tx_gl ls ms) (hs : tx_gs st sv) : tx_P (tx_lcmp ls st) (ax_pure .lcmp ms sv) := by
  unfold tx_lcmp
  split
  · obtain ⟨y, xs, rfl, h1, h2⟩ := tx_gs_l hs
    obtain ⟨x, xs, rfl, h3, h4⟩ := tx_gs_l h2
    exact tx_Ps rfl hl ⟨tx_cmpE h3 h1, h4⟩
  · exact tx_Pn
theorem tx_dupE (hl : tx_gl ls ms) (hs : tx_gs st sv) : tx_P (tx_dup ls st) (ax_pure .dup ms sv) := by
  unfold tx_dup
  split
  · rename_i a r
    obtain ⟨x, xs, rfl, h1, h2⟩ := tx_gs_c hs
    split
    · rename_i hc
      exact tx_Ps (sv := x :: x :: xs) (show (if ax_cat x = 1 then some (ms, x :: x :: xs) else none) = _ by rw [if_pos (by rw [tx_catE h1]; exact hc)]) hl ⟨h1, h1, h2⟩
    · exact tx_Pn
  · exact tx_Pn
theorem tx_popE (hl : tx_gl ls ms) (hs : tx_gs st sv) : tx_P (tx_pop1 ls st) (ax_pure .pop ms sv) := by
  unfold tx_pop1
  split
  · rename_i a r
    obtain ⟨x, xs, rfl, h1, h2⟩ := tx_gs_c hs
    split
    · rename_i hc
      exact tx_Ps (show (if ax_cat x = 1 then some (ms, xs) else none) = _ by rw [if_pos (by rw [tx_catE h1]; exact hc)]) hl h2
    · exact tx_Pn
  · exact tx_Pn
theorem tx_remE (hl : tx_gl ls ms) (hs : tx_gs st sv) : tx_P (tx_rem ls st) (ax_pure .irem ms sv) := by
  unfold tx_rem
  split
  · rename_i y x r
    obtain ⟨xs, rfl, h2⟩ := tx_gs_k hs
    obtain ⟨x', xs, rfl, h3, h4⟩ := tx_gs_i h2
    split
    · exact tx_Pn
    · rename_i hy
      exact tx_Ps (sv := .inl (ax_irem x' y) :: xs) (show (if y = 0 then none else some (ms, .inl (ax_irem x' y) :: xs)) = _ by rw [if_neg hy]) hl ⟨tx_f2E ax_irem h3 (u := .inl y) rfl, h4⟩
  · exact tx_Pn
set_option maxHeartbeats 4000000 in
theorem tx_pureE (hl : tx_gl ls ms) (hs : tx_gs st sv) (i : Instr) : tx_P (tx_pure i ls st) (ax_pure i ms sv) := by
  unfold tx_pure
  split
  · exact tx_Ps rfl hl ⟨rfl, hs⟩
  · exact tx_Ps rfl hl ⟨rfl, hs⟩
  · exact tx_Ps rfl hl ⟨rfl, hs⟩
  · exact tx_Ps rfl hl ⟨rfl, hs⟩
  · exact tx_iloadE hl hs _
  · exact tx_iloadE hl hs _
  · exact tx_lloadE hl hs _
  · exact tx_lloadE hl hs _
  · exact tx_aloadE hl hs _
  · exact tx_aloadE hl hs _
  · exact tx_istoreE hl hs _
  · exact tx_istoreE hl hs _
  · exact tx_lstoreE hl hs _
  · exact tx_lstoreE hl hs _
  · exact tx_astoreE hl hs _
  · exact tx_astoreE hl hs _
  · exact tx_iincE hl hs _ _
  · exact tx_iiE (f := fun x y => ax_w32 (x + y)) (fun h g => tx_f2E _ h g) hl hs
  · exact tx_iiE (f := fun x y => ax_w32 (x - y)) (fun h g => tx_f2E _ h g) hl hs
  · exact tx_iiE (f := fun x y => ax_w32 (x * y)) (fun h g => tx_f2E _ h g) hl hs
  · exact tx_iiE (f := ax_iand) (fun h g => tx_andE h g) hl hs
  · exact tx_iiE (f := ax_ishr) (fun h g => tx_f2E _ h g) hl hs
  · exact tx_iiE (f := ax_iushr) (fun h g => tx_f2E _ h g) hl hs
  · exact tx_llE hl hs
  · exact tx_llE hl hs
  · exact tx_llE hl hs
  · exact tx_liE hl hs
  · exact tx_liE hl hs
  · exact tx_i2lE hl hs
  · exact tx_l2iE hl hs
  · exact tx_i1E (f := ax_w8) hl hs
  · exact tx_i1E (f := ax_u16) hl hs
  · exact tx_lcmpE hl hs
  · exact tx_dupE hl hs
  · exact tx_popE hl hs
  · exact tx_remE hl hs
  · exact tx_Pn
end TXP
/-! jumps -/
theorem tx_ltE {t u : tx_I} {x y : Int} (h : tx_gi t x) (g : tx_gi u y) {b : Bool} (e : tx_lt t u = some b) : (b = true ↔ x < y) := by
  unfold tx_lt at e
  split at e
  · rename_i q
    cases e
    exact ⟨fun _ => tx_ltbE h g q, fun _ => rfl⟩
  · split at e
    · rename_i q
      cases e
      have := tx_lebE g h q
      exact ⟨fun k => (by cases k), fun k => by omega⟩
    · cases e
theorem tx_eqE {t u : tx_I} {x y : Int} (h : tx_gi t x) (g : tx_gi u y) {b : Bool} (e : tx_eq t u = some b) : (b = true ↔ x = y) := by
  unfold tx_eq at e
  split at e
  · rename_i q
    cases e
    refine ⟨fun k => ((by cases k)), fun k => ?_⟩
    rcases q with q | q
    · have := tx_ltbE h g q; omega
    · have := tx_ltbE g h q; omega
  · split at e
    · rename_i q
      cases e
      have := tx_lebE h g q.1
      have := tx_lebE g h q.2
      exact ⟨fun _ => by omega, fun _ => rfl⟩
    · cases e
def tx_J (r : Option (Nat × List tx_V)) (q : Option (Nat × List ax_V)) : Prop := ∀ pc st, r = some (pc, st) → ∃ sv, q = some (pc, sv) ∧ tx_gs st sv
theorem tx_Jn {q : Option (Nat × List ax_V)} : tx_J none q := fun _ _ h => by cases h
theorem tx_Js {pc : Nat} {st : List tx_V} {sv : List ax_V} {q : Option (Nat × List ax_V)} (e : q = some (pc, sv)) (hs : tx_gs st sv) : tx_J (some (pc, st)) q := fun _ _ h => by cases h; exact ⟨sv, e, hs⟩
theorem tx_jifE {b : Option Bool} {n : Bool} {P : Prop} (inst : Decidable P) {pc : Nat} {off : Int} {r : List tx_V} {q : List ax_V} (hb : ∀ c, b = some c → (c = n ↔ P)) (hs : tx_gs r q) : tx_J (tx_jif b n pc off r) (@ax_jif P inst pc off q) := by
  unfold tx_jif
  split
  · exact tx_Jn
  · rename_i c
    have hc := hb c rfl
    split
    · rename_i e
      exact tx_Js (by unfold ax_jif; rw [if_pos (hc.mp e)]) hs
    · rename_i e
      exact tx_Js (by unfold ax_jif; rw [if_neg (fun p => e (hc.mpr p))]) hs
theorem tx_bt {b : Bool} {P Q : Prop} (h : (b = true ↔ P)) (hq : Q ↔ ¬ P) : (b = false ↔ Q) := by
  cases b with
  | true => exact ⟨fun e => ((by cases e)), fun q => absurd (h.mp rfl) (hq.mp q)⟩
  | false => exact ⟨fun _ => hq.mpr (fun p => by cases h.mpr p), fun _ => rfl⟩
section TXJ
variable {st : List tx_V} {sv : List ax_V}
theorem tx_ifE (hs : tx_gs st sv) (cd : Jvm.ClassFile.Cond) (pc : Nat) (off : Int) : tx_J (tx_jump (.ifCond cd off) pc st) (ax_jump (.ifCond cd off) pc sv) := by
  have z : tx_gi (.inl 0) 0 := rfl
  cases st with
  | nil => exact tx_Jn
  | cons t r =>
    rcases t with x | x | x
    · obtain ⟨x', xs, rfl, h1, h2⟩ := tx_gs_i hs
      cases cd
      · exact tx_jifE _ (fun c hc => tx_eqE h1 z hc) h2
      · exact tx_jifE _ (fun c hc => tx_bt (tx_eqE h1 z hc) Iff.rfl) h2
      · exact tx_jifE _ (fun c hc => tx_ltE h1 z hc) h2
      · exact tx_jifE _ (fun c hc => tx_bt (tx_ltE h1 z hc) (by omega)) h2
      · exact tx_jifE _ (fun c hc => tx_ltE z h1 hc) h2
      · exact tx_jifE _ (fun c hc => tx_bt (tx_ltE z h1 hc) (by omega)) h2
    · exact tx_Jn
    · exact tx_Jn
theorem tx_icmpE (hs : tx_gs st sv) (cd : Jvm.ClassFile.Cond) (pc : Nat) (off : Int) : tx_J (tx_jump (.if_icmp cd off) pc st) (ax_jump (.if_icmp cd off) pc sv) := by
  rcases st with _ | ⟨y | y | y, _ | ⟨x | x | x, r⟩⟩ <;> try exact tx_Jn
  obtain ⟨y', xs, rfl, h1, h2⟩ := tx_gs_i hs
  obtain ⟨x', xs, rfl, h3, h4⟩ := tx_gs_i h2
  cases cd
  · exact tx_jifE _ (fun c hc => tx_eqE h3 h1 hc) h4
  · exact tx_jifE _ (fun c hc => tx_bt (tx_eqE h3 h1 hc) Iff.rfl) h4
  · exact tx_jifE _ (fun c hc => tx_ltE h3 h1 hc) h4
  · exact tx_jifE _ (fun c hc => tx_bt (tx_ltE h3 h1 hc) (by omega)) h4
  · exact tx_jifE _ (fun c hc => tx_ltE h1 h3 hc) h4
  · exact tx_jifE _ (fun c hc => tx_bt (tx_ltE h1 h3 hc) (by omega)) h4
theorem tx_tswE (hs : tx_gs st sv) (pc : Nat) (d lo hi : Int) (offs : Array Int) : tx_J (tx_jump (.tableswitch d lo hi offs) pc st) (ax_jump (.tableswitch d lo hi offs) pc sv) := by
  rcases st with _ | ⟨t | t | t, r⟩ <;> try exact tx_Jn
  cases t with
  | inl z =>
    obtain ⟨xs, rfl, h2⟩ := tx_gs_k hs
    show tx_J (if z < lo ∨ hi < z then some (ax_to pc d, r) else match offs[(z - lo).toNat]? with
        | some off => some (ax_to pc off, r)
        | none => none) (if z < lo ∨ hi < z then some (ax_to pc d, xs) else match offs[(z - lo).toNat]? with
        | some off => some (ax_to pc off, xs)
        | none => none)
    split
    · exact tx_Js rfl h2
    · split
      · exact tx_Js rfl h2
      · exact tx_Jn
  | inr q =>
    obtain ⟨x, xs, rfl, h1, h2⟩ := tx_gs_i hs
    show tx_J (if tx_ltb (.inr q) (.inl lo) = true ∨ tx_ltb (.inl hi) (.inr q) = true then some (ax_to pc d, r) else none) (if x < lo ∨ hi < x then some (ax_to pc d, xs) else match offs[(x - lo).toNat]? with
        | some off => some (ax_to pc off, xs)
        | none => none)
    split
    · rename_i e
      refine tx_Js (sv := xs) ?_ h2
      rw [if_pos]
      rcases e with e | e
      · exact Or.inl (tx_ltbE h1 (u := .inl lo) rfl e)
      · exact Or.inr (tx_ltbE (t := .inl hi) rfl h1 e)
    · exact tx_Jn
set_option maxHeartbeats 4000000 in
theorem tx_jumpE (hs : tx_gs st sv) (i : Instr) (pc : Nat) : tx_J (tx_jump i pc st) (ax_jump i pc sv) := by
  cases i <;> first
    | exact tx_Jn
    | exact tx_Js rfl hs
    | exact tx_ifE hs _ _ _
    | exact tx_icmpE hs _ _ _
    | exact tx_tswE hs _ _ _ _ _
end TXJ
