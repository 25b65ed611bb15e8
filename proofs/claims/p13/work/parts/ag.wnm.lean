/-! WIDTHS: the reference's names. -/
/-- but for widths and what is found, two states agree -/
def AGw (s0 s : Sg) : Prop := (∀ c, c ≠ 84 → c ≠ 122 → s c = s0 c) ∧ (∀ j, j ≠ 8 → s 84 j = s0 84 j)
noncomputable def cite (p : Prop) (a b : Int) : Int := @ite Int p (Classical.propDecidable p) a b
theorem cite_y {p : Prop} {a b : Int} (h : p) : cite p a b = a := if_pos h
theorem cite_n {p : Prop} {a b : Int} (h : ¬ p) : cite p a b = b := if_neg h
def lg (v : Int) : Int := if v ≤ 2 then 1 else if v ≤ 4 then 2 else if v ≤ 8 then 3 else if v ≤ 16 then 4 else if v ≤ 32 then 5 else 6
def iw (T : TT) (sm : Sg) (i : Nat) : Int := if sm 94 i = 1 then T.vl (sm 96 i).toNat else lg (T.vl (sm 96 i).toNat)
section WNM
variable {T : TT} {sc sm s s' : Sg} {n a b S P A N K C w i x : Nat} {t : Nat → Int} {r v : Int}
theorem AGw.tx (h : AGw sm s) (k : TX T sc sm n t) : TX T sc s n t := k.mrow (h.2 3 (by decide)) (h.1 86 (by decide) (by decide)) (h.1 89 (by decide) (by decide)) (h.1 90 (by decide) (by decide))
theorem AGw.owk (h : AGw sm s) (k : OWK T sm S A) : OWK T s S A := by
  unfold OWK NMD at *
  rw [h.2 19 (by decide), h.1 95 (by decide) (by decide), h.1 98 (by decide) (by decide), h.1 99 (by decide) (by decide), h.1 104 (by decide) (by decide), h.1 113 (by decide) (by decide), h.1 106 (by decide) (by decide), h.1 107 (by decide) (by decide)]
  exact k
theorem AGw.sof (h : AGw sm s) : SOF T s S v r ↔ SOF T sm S v r := by
  unfold SOF
  rw [h.1 95 (by decide) (by decide)]
theorem FD.agw {p : Prop} (h : AGw sm s) (k : FD s s' p) : AGw sm s' := ⟨fun c x y => (k.1 c x).trans (h.1 c x y), fun j x => (k.2.1 j x).trans (h.2 j x)⟩
/-- the statement of a name that has one -/
theorem m238w (h : CKX T sc sm n t S P A N K C w) (ha : AGw sm s) (hx : x < T.z) (tx : T.tk x = 1) (so : SO1 T sm S (T.vl x) i) : f_238 (x : Int) s = some (i : Int) := by
  have ok := h.owk
  obtain ⟨hT, hX, -⟩ := h
  obtain ⟨r, e1, e2⟩ := m238 hT (ha.tx hX) (ha.owk ok) hx tx
  rw [ha.sof] at e2
  rcases e2 with ⟨_, e3⟩ | ⟨f, e2, e3, e4, e5⟩
  · exact absurd so.2.1 (e3 i so.1)
  · have : f = i := SO1.uniq ⟨e3, e4, e5⟩ so
    rw [e1, e2, this]
/-- a statement's width -/
theorem m97 (h : CKX T sc sm n t S P A N K C w) (g : GOOD T sc sm S A N w) (ha : AGw sm s) (hi : i < S) (hk : sm 94 i < 3) : ∃ c : Nat, sm 97 i = (c : Int) ∧ f_218 (c : Int) s = some (T.vl c) ∧ ax_w32 (T.vl c) = T.vl c ∧ 1 ≤ T.vl c ∧ T.vl c ≤ 32 ∧ sc 57 i = T.vl c := by
  obtain ⟨hT, hX, hC, hD, -⟩ := h
  obtain ⟨hd, p0, pc, n0, b1, b2, b3, b4, b5, b6, b7, b8, b9, b10, b11⟩ := hD.1 i hi
  have kw : SKW T sc sm i := by
    rcases b11 with ⟨_, _, u, _⟩ | ⟨_, _, u, _⟩ | ⟨_, _, u, _⟩ | ⟨u, -⟩
    · exact u
    · exact u
    · exact u
    · omega
  obtain ⟨c, g1, g2, g3, g4⟩ := kw
  have gv := (g.2.1 i hi).1 hk
  rw [g1, Int.toNat_natCast] at gv
  refine ⟨c, g1, m218 hT (ha.tx hX) g2 g3, w32_id (by omega) (by omega), gv.1, gv.2, ?_⟩
  rw [g4]
  unfold mn
  rw [if_neg (by omega)]
theorem lg_d : ∀ k : Nat, k < 65 → pw2 (k : Int) → ∀ s : Sg, j_256_26 7 (k : Int) 0 s = some (lg (k : Int)) ∧ f_295 (k : Int) s = lg (k : Int) := by
  intro k hk hp s
  have : k = 2 ∨ k = 4 ∨ k = 8 ∨ k = 16 ∨ k = 32 ∨ k = 64 := by unfold pw2 at hp; omega
  rcases this with e | e | e | e | e | e <;> subst e <;> exact ⟨rfl, rfl⟩
theorem j256_up : ∀ (F : Nat) (l2 l3 q : Int) (s : Sg), j_256_26 F l2 l3 s = some q → ∀ G, j_256_26 (F + G) l2 l3 s = some q := by
  intro F
  induction F with
  | zero => intro l2 l3 q s h; cases h
  | succ F ih =>
    intro l2 l3 q s h G
    rw [show F + 1 + G = (F + G) + 1 by omega, j_256_26]
    rw [j_256_26] at h
    split
    · rename_i c
      rw [if_pos c] at h
      exact h
    · rename_i c
      rw [if_neg c] at h
      exact ih _ _ _ _ h G
/-- how wide an index is -/
theorem m256 (h : CKX T sc sm n t S P A N K C w) (g : GOOD T sc sm S A N w) (ha : AGw sm s) (hi : i < S) (hf : sm 94 i = 1 ∨ sm 94 i = 0 ∧ 0 ≤ sm 96 i) : f_256 (i : Int) s = some (iw T sm i) ∧ 1 ≤ iw T sm i ∧ ∃ c : Nat, sm 96 i = (c : Int) ∧ c < T.z ∧ sc 58 i = T.vl c ∧ (sm 94 i ≠ 1 → pw2 (T.vl c)) := by
  obtain ⟨hT, hX, hC, hD, hN, h19, h31, h34, h30, wz, tw, S8, P8, A8, N8⟩ := id h
  obtain ⟨hd, p0, pc, n0, b1, b2, b3, b4, b5, b6, b7, b8, b9, b10, b11⟩ := hD.1 i hi
  have kc : SKC T sc sm i := by
    rcases b11 with ⟨_, _, _, u⟩ | ⟨_, _, _, u⟩ | ⟨u, -⟩ | ⟨u, -⟩
    · rcases u with u | u
      · omega
      · exact u
    · exact u
    · omega
    · omega
  obtain ⟨c, g1, g2, g3, g4⟩ := kc
  have v0 := hT.2.2.2.2.1 c g2
  unfold f_256 iw
  rw [gd_pos (by omega), Int.toNat_natCast, ha.1 96 (by decide) (by decide), ha.1 94 (by decide) (by decide), g1, m218 hT (ha.tx hX) g2 g3, Option.bind_some, gd_pos (by omega), Int.toNat_natCast]
  by_cases c1 : sm 94 i = 1
  · have gv := (g.2.1 i hi).2.1 c1
    rw [g1, Int.toNat_natCast] at gv
    rw [if_neg (fun e => e c1), if_pos c1, w32_id (by omega) (by omega)]
    refine ⟨rfl, gv.1, c, rfl, g2, ?_, fun e => absurd c1 e⟩
    rw [g4]
    unfold mn
    rw [if_neg (by omega)]
  · have gv := (g.2.1 i hi).2.2.1 (by omega) (by omega)
    rw [g1, Int.toNat_natCast] at gv
    have hb : T.vl c ≤ 64 := by unfold pw2 at gv; omega
    have ld := lg_d (T.vl c).toNat (by omega) (by rw [Int.toNat_of_nonneg v0.1]; exact gv) s
    rw [Int.toNat_of_nonneg v0.1] at ld
    obtain ⟨F, hF⟩ := FU_split (k := 7) (by omega)
    have up := j256_up 7 _ _ _ _ ld.1 F
    rw [show 7 + F = FU by omega] at up
    rw [if_pos c1, if_neg c1, w32_id (by omega) (by omega)]
    refine ⟨up, ?_, c, rfl, g2, ?_, fun _ => gv⟩
    · unfold lg
      repeat' split
      all_goals decide
    · rw [g4]
      unfold mn
      rw [if_neg (by omega)]
/-- the width of a name -/
theorem m255r (h : CKX T sc sm n t S P A N K C w) (ha : AGw sm s) (hx : x < T.z) (tx : T.tk x = 1) (si : Nat) : ∀ (q : Nat) (r : Int) (F : Nat), r < (q : Int) → r < (A : Int) → (0 ≤ r → sm 106 r.toNat = 2) → (rin T sm (T.vl x) q r → j_255_3 (F + q + 1) (si : Int) (x : Int) r s = some 8) ∧ (¬ rin T sm (T.vl x) q r → j_255_3 (F + q + 1) (si : Int) (x : Int) r s = j_255_38 (si : Int) (x : Int) s) := by
  have ok := h.owk
  obtain ⟨hT, hX, -⟩ := h
  obtain ⟨k1, k2, k3, k4, k5, k6⟩ := id ok
  intro q
  induction q with
  | zero =>
    intro r F hr _ _
    rw [j_255_3, if_pos (by omega)]
    exact ⟨fun y => absurd y (fun z => z), fun _ => rfl⟩
  | succ q ih =>
    intro r F hr hA hk
    by_cases c : r < 0
    · rw [j_255_3, if_pos c]
      exact ⟨fun y => absurd y.1 (by omega), fun _ => rfl⟩
    · obtain ⟨u, hu⟩ : ∃ u : Nat, r = (u : Int) := ⟨r.toNat, by omega⟩
      subst hu
      rw [Int.toNat_natCast] at hk
      obtain ⟨g1, g2, g3, g4⟩ := k6 u (by omega)
      obtain ⟨y, y1, y2, y3⟩ := g4 (hk (by omega))
      have e : rin T sm (T.vl x) (q + 1) (u : Int) ↔ (T.vl y = T.vl x ∨ rin T sm (T.vl x) q (sm 113 u)) := by
        show (0 ≤ (u : Int) ∧ (T.vl (sm 107 (u : Int).toNat).toNat = T.vl x ∨ rin T sm (T.vl x) q (sm 113 (u : Int).toNat))) ↔ _
        rw [Int.toNat_natCast, y1, Int.toNat_natCast]
        exact ⟨fun z => z.2, fun z => ⟨by omega, z⟩⟩
      have st : j_255_3 (F + (q + 1) + 1) (si : Int) (x : Int) (u : Int) s = (if T.vl y = T.vl x then some 8 else j_255_3 (F + q + 1) (si : Int) (x : Int) (sm 113 u) s) := by
        rw [show F + (q + 1) + 1 = (F + q + 1) + 1 by omega, j_255_3, if_neg c, gd_pos (by omega), Int.toNat_natCast, ha.1 107 (by decide) (by decide), ha.1 113 (by decide) (by decide), y1, m239 hT (ha.tx hX) y2 y3 hx tx, Option.bind_some]
        by_cases d : T.vl y = T.vl x
        · rw [p01_y d, if_neg (by decide), if_pos d]
        · rw [p01_n d, if_pos rfl, gd_pos (by omega), if_neg d]
      obtain ⟨i1, i2⟩ := ih (sm 113 u) F (by omega) (by omega) g3
      rw [st]
      by_cases d : T.vl y = T.vl x
      · rw [if_pos d]
        exact ⟨fun _ => rfl, fun z => absurd (e.mpr (Or.inl d)) z⟩
      · rw [if_neg d]
        exact ⟨fun z => by
          rcases e.mp z with z | z
          · exact absurd z d
          · exact i1 z, fun z => i2 (fun u => z (e.mpr (Or.inr u)))⟩
theorem m255p (h : CKX T sc sm n t S P A N K C w) (ha : AGw sm s) (hx : x < T.z) (tx : T.tk x = 1) (hi : i < S) {p0 pc : Nat} (b6 : sm 98 i = (p0 : Int)) (b7 : sm 99 i = (pc : Int)) : ∀ (q l F : Nat), l + q = p0 + pc → p0 ≤ l → (∃ p, l ≤ p ∧ p < p0 + pc ∧ 0 ≤ sm 104 p ∧ T.vl (sm 104 p).toNat = T.vl x ∧ j_255_46 (F + q + 1) (i : Int) (x : Int) (l : Int) s = j_255_89 (p : Int) s) ∨ ((∀ p, l ≤ p → p < p0 + pc → 0 ≤ sm 104 p → T.vl (sm 104 p).toNat ≠ T.vl x) ∧ j_255_46 (F + q + 1) (i : Int) (x : Int) (l : Int) s = j_255_108 (x : Int) s) := by
  have ok := h.owk
  obtain ⟨hT, hX, hC, hD, hN, h19, h31, h34, h30, wz, tw, S8, P8, A8, N8⟩ := h
  obtain ⟨p0', pc', g1, g2, g3, g4⟩ := ok.2.2.2.2.1 i hi
  have e0 : p0' = p0 := by omega
  have e1 : pc' = pc := by omega
  subst e0
  subst e1
  intro q
  induction q with
  | zero =>
    intro l F hl hp
    right
    refine ⟨fun p y z => absurd z (by omega), ?_⟩
    rw [j_255_46, gd_pos (by omega), gd_pos (by omega), Int.toNat_natCast, ha.1 98 (by decide) (by decide), ha.1 99 (by decide) (by decide), b6, b7, w32_add (by omega), if_pos (by omega)]
  | succ q ih =>
    intro l F hl hp
    have st : j_255_46 (F + (q + 1) + 1) (i : Int) (x : Int) (l : Int) s = (if sm 104 l < 0 then j_255_46 (F + q + 1) (i : Int) (x : Int) ((l + 1 : Nat) : Int) s else if T.vl (sm 104 l).toNat = T.vl x then j_255_89 (l : Int) s else j_255_46 (F + q + 1) (i : Int) (x : Int) ((l + 1 : Nat) : Int) s) := by
      rw [show F + (q + 1) + 1 = (F + q + 1) + 1 by omega, j_255_46, gd_pos (by omega), gd_pos (by omega), Int.toNat_natCast, Int.toNat_natCast, ha.1 98 (by decide) (by decide), ha.1 99 (by decide) (by decide), ha.1 104 (by decide) (by decide), b6, b7, w32_add (by omega), if_neg (by omega), gd_pos (by omega)]
      unfold j_255_102
      rw [w32_nat (by omega)]
      by_cases c : sm 104 l < 0
      · rw [if_pos c, if_pos c]
      · obtain ⟨y, y1, y2, y3⟩ := g4 l hp (by omega) (by omega)
        rw [if_neg c, if_neg c, gd_pos (by omega), y1, m239 hT (ha.tx hX) y2 y3 hx tx, Option.bind_some, Int.toNat_natCast]
        by_cases d : T.vl y = T.vl x
        · rw [p01_y d, if_neg (by decide), if_pos d]
        · rw [p01_n d, if_pos rfl, if_neg d]
    rw [st]
    have nx := ih (l + 1) F (by omega) (by omega)
    by_cases c : sm 104 l < 0
    · rw [if_pos c]
      rcases nx with ⟨p, y1, y2, y3, y4, y5⟩ | ⟨y1, y2⟩
      · exact Or.inl ⟨p, by omega, y2, y3, y4, y5⟩
      · refine Or.inr ⟨fun p z1 z2 z3 => ?_, y2⟩
        by_cases e : p = l
        · rw [e] at z3; omega
        · exact y1 p (by omega) z2 z3
    · rw [if_neg c]
      by_cases d : T.vl (sm 104 l).toNat = T.vl x
      · rw [if_pos d]
        exact Or.inl ⟨l, Nat.le_refl _, by omega, by omega, d, rfl⟩
      · rw [if_neg d]
        rcases nx with ⟨p, y1, y2, y3, y4, y5⟩ | ⟨y1, y2⟩
        · exact Or.inl ⟨p, by omega, y2, y3, y4, y5⟩
        · refine Or.inr ⟨fun p z1 z2 z3 => ?_, y2⟩
          by_cases e : p = l
          · rw [e]; exact d
          · exact y1 p (by omega) z2 z3
theorem m255 (h : CKX T sc sm n t S P A N K C w) (g : GOOD T sc sm S A N w) (ha : AGw sm s) (hx : x < T.z) (tx : T.tk x = 1) {si : Nat} (hsi : si < S) (hr : r < (A : Int)) (hr2 : 0 ≤ r → sm 106 r.toNat = 2) {v : Int} (ev1 : v ≠ 0 ↔ OWN T sm si r (T.vl x)) (ev2 : v ≠ 0 → OWW T sm si r (T.vl x) v) (so : v = 0 → SO1 T sm S (T.vl x) i ∧ sm 94 i < 3) : ∃ u : Int, f_255 (si : Int) r (x : Int) s = some u ∧ 1 ≤ u ∧ u ≤ 32 ∧ (v ≠ 0 → u = v) ∧ (v = 0 → u = T.vl (sm 97 i).toNat) := by
  have ok := h.owk
  obtain ⟨hT, hX, hC, hD, hN, h19, h31, h34, h30, wz, tw, S8, P8, A8, N8⟩ := id h
  obtain ⟨hd, p0, pc, n0, b1, b2, b3, b4, b5, b6, b7, b8, -⟩ := hD.1 si hsi
  obtain ⟨F, hF⟩ := FU_split (k := 8200 + 1) (by omega)
  have ch := m255r h ha hx tx si 8200 r F (by omega) hr hr2
  rw [show F + 8200 + 1 = FU by omega] at ch
  unfold f_255
  have z8 := hT.1
  by_cases c : rin T sm (T.vl x) 8200 r
  · have v0 : v ≠ 0 := ev1.mpr (Or.inr c)
    refine ⟨8, ch.1 c, by decide, by decide, fun _ => ?_, fun y => absurd y v0⟩
    rcases ev2 v0 with ⟨_, y⟩ | ⟨y, _⟩
    · exact y.symm
    · exact absurd c y
  · rw [ch.2 c]
    unfold j_255_38
    rw [gd_pos (by omega), Int.toNat_natCast, ha.1 98 (by decide) (by decide), b6]
    obtain ⟨F', hF'⟩ := FU_split (k := pc + 1) (by omega)
    have lp := m255p h ha hx tx hsi b6 b7 pc p0 F' (by omega) (Nat.le_refl _)
    rw [show F' + pc + 1 = FU by omega] at lp
    rcases lp with ⟨p, y1, y2, y3, y4, y5⟩ | ⟨y1, y2⟩
    · have v0 : v ≠ 0 := ev1.mpr (Or.inl ⟨p, by rw [b6, Int.toNat_natCast]; exact y1, by rw [b6, b7, Int.toNat_natCast, Int.toNat_natCast]; exact y2, y3, y4⟩)
      have gp := fun p (u1 : p0 ≤ p) (u2 : p < p0 + pc) => (g.2.1 si hsi).2.2.2.2 p (by rw [b6, Int.toNat_natCast]; exact u1) (by rw [b6, b7, Int.toNat_natCast, Int.toNat_natCast]; exact u2)
      obtain ⟨z, z1, z2, z3, z4⟩ := hD.prt (p := p) (by omega)
      have gv := (gp p y1 y2).1 y3
      rw [z1, Int.toNat_natCast] at gv
      have e89 : j_255_89 (p : Int) s = some (T.vl z) := by
        unfold j_255_89
        rw [gd_pos (by omega), Int.toNat_natCast, ha.1 105 (by decide) (by decide), z1, m218 hT (ha.tx hX) z2 z3, Option.bind_some, w32_id (by omega) (by omega)]
      refine ⟨T.vl z, by rw [y5, e89], gv.1, gv.2, fun _ => ?_, fun y => absurd y v0⟩
      rcases ev2 v0 with ⟨y, _⟩ | ⟨_, p', q1, q2, q3, q4, q5⟩
      · exact absurd y c
      · rw [b6, Int.toNat_natCast] at q1
        rw [b6, b7, Int.toNat_natCast, Int.toNat_natCast] at q2
        have : p' = p := by
          by_cases c1 : p' < p
          · exact absurd (by rw [y4, q4]) ((gp p y1 y2).2.2 p' (by rw [b6, Int.toNat_natCast]; exact q1) c1 y3 q3)
          · by_cases c2 : p < p'
            · exact absurd (by rw [y4, q4]) ((gp p' q1 q2).2.2 p (by rw [b6, Int.toNat_natCast]; exact y1) c2 q3 y3)
            · omega
        rw [this, z1, Int.toNat_natCast] at q5
        rw [q5]
        unfold mn
        rw [if_neg (show ¬ 1073741824 < T.vl z by omega), if_neg (by omega)]
    · have v0 : v = 0 := by
        apply Decidable.byContradiction
        intro hn
        rcases ev1.mp hn with ⟨p, u1, u2, u3, u4⟩ | u
        · rw [b6, Int.toNat_natCast] at u1
          rw [b6, b7, Int.toNat_natCast, Int.toNat_natCast] at u2
          exact y1 p u1 u2 u3 u4
        · exact c u
      obtain ⟨so1, so2⟩ := so v0
      obtain ⟨c9, d1, d2, d3, d4, d5, d6⟩ := m97 h g ha so1.1 so2
      have i8 := so1.1
      have e108 : j_255_108 (x : Int) s = some (T.vl c9) := by
        unfold j_255_108
        rw [m238w h ha hx tx so1, Option.bind_some, gd_pos (by omega), Int.toNat_natCast, ha.1 97 (by decide) (by decide), d1, d2, Option.bind_some, d3]
      exact ⟨T.vl c9, by rw [y2, e108], d4, d5, fun y => absurd v0 y, fun _ => by rw [d1, Int.toNat_natCast]⟩
end WNM
