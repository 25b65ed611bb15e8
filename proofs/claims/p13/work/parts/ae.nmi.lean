/-! NAMES: both sides find the same. -/
section NMI
variable {T : TT} {sc sm : Sg} {n S P A N K C w i : Nat} {t : Nat → Int} {k c : Int}
theorem mn0 {v : Int} (h : 1 ≤ v) : mn v ≠ 0 := by unfold mn; split <;> omega
/-- fitting, on both sides -/
theorem ftc_fit (h : DAT T sc sm S P A N C w) (hi : i < S) (g : GST T sc sm i) (hk : k = 1 ∨ k = 2 ∨ k = 3) : FTc sc k i c ↔ FIT sm k i c := by
  obtain ⟨hd, p0, pc, n0, b1, b2, b3, b4, b5, b6, b7, b8, b9, b10, b11⟩ := h.1 i hi
  unfold FTc FIT
  rw [b5]
  have r0 : sm 94 i = 0 → (sc 58 i = 0 ↔ sm 96 i < 0) := fun e => by
    rcases b11 with ⟨_, _, _, u⟩ | ⟨u, -⟩ | ⟨u, -⟩ | ⟨u, -⟩
    · rcases u with ⟨u1, u2⟩ | ⟨x, u1, u2, u3, u4⟩
      · exact ⟨fun _ => by omega, fun _ => u2⟩
      · have := g.2.2.1 e (by omega)
        rw [u1, Int.toNat_natCast] at this
        have n0 : sc 58 i ≠ 0 := by rw [u4]; exact mn0 (by unfold pw2 at this; omega)
        exact ⟨fun y => absurd y n0, fun y => by omega⟩
    · omega
    · omega
    · omega
  have r2 : sm 94 i = 2 → sc 58 i = sm 99 i := fun e => by
    rcases b11 with ⟨u, -⟩ | ⟨u, -⟩ | ⟨_, u, -⟩ | ⟨u, -⟩
    · omega
    · omega
    · rw [u, b7]
    · omega
  constructor
  · intro y
    rcases y with ⟨y1, y2, y3⟩ | ⟨y1, y2⟩ | ⟨y1, y2, y3, y4⟩
    · exact Or.inl ⟨y1, y2, (r0 y2).mp y3⟩
    · refine Or.inr (Or.inl ⟨y1, ?_⟩)
      rcases y2 with y2 | ⟨y2, y3⟩
      · exact Or.inl y2
      · refine Or.inr ⟨y2, ?_⟩
        apply Decidable.byContradiction
        intro hn
        exact y3 ((r0 y2).mpr (by omega))
    · exact Or.inr (Or.inr ⟨by omega, y3, by rw [← r2 y3]; exact y4⟩)
  · intro y
    rcases y with ⟨y1, y2, y3⟩ | ⟨y1, y2⟩ | ⟨y1, y2, y3⟩
    · exact Or.inl ⟨y1, y2, (r0 y2).mpr y3⟩
    · refine Or.inr (Or.inl ⟨y1, ?_⟩)
      rcases y2 with y2 | ⟨y2, y3⟩
      · exact Or.inl y2
      · refine Or.inr ⟨y2, fun e => ?_⟩
        have := (r0 y2).mp e
        omega
    · exact Or.inr (Or.inr ⟨by omega, by omega, y2, by rw [r2 y2]; exact y3⟩)
/-- owners are the statements of the names -/
theorem okn_so (hT : TWF T) (h : DAT T sc sm S P A N C w) (gs : ∀ i, i < S → GST T sc sm i) {x : Nat} (hx : x < T.z) (tx : T.tk x = 1) (hk : k = 1 ∨ k = 2 ∨ k = 3) : okN T sc S x k c ↔ (¬ NOS T sm S (T.vl x) ∧ ∀ i, SO1 T sm S (T.vl x) i → FIT sm k i c) := by
  have v1 := hT.2.2.2.2.1 x hx
  have v2 := hT.2.2.2.2.2.1 x hx tx
  have vi : (((T.vl x).toNat : Nat) : Int) = T.vl x := by omega
  have uq : ∀ i j, i < S → j < S → T.vl (sm 95 i).toNat = T.vl (sm 95 j).toNat → i = j := fun i j hi hj e => by
    by_cases c1 : i < j
    · exact absurd e ((gs j hj).2.2.2.1 i c1)
    · by_cases c2 : j < i
      · exact absurd e.symm ((gs i hi).2.2.2.1 j c2)
      · omega
  rcases h.2.2.2.2.2.1 (T.vl x).toNat (IDN.at hT hx tx) with ⟨u1, u2⟩ | ⟨j, u1, u2, u3⟩
  · rw [vi] at u2
    exact ⟨fun ⟨i, y1, y2, y3⟩ => by omega, fun y => absurd u2 y.1⟩
  · rw [vi] at u3
    have so : SO1 T sm S (T.vl x) j := ⟨u1, u3, fun i hi e => by
      have := uq i j (by omega) u1 (by rw [e, u3])
      omega⟩
    constructor
    · intro ⟨i, y1, y2, y3⟩
      have e : i = j := by omega
      subst e
      exact ⟨fun z => z i u1 u3, fun l hl => by rw [← so.uniq hl]; exact (ftc_fit h u1 (gs i u1) hk).mp y3⟩
    · intro y
      exact ⟨j, u1, u2, (ftc_fit h u1 (gs j u1) hk).mpr (y.2 j so)⟩
/-- GOOD, in the reference's words -/
theorem good_bd (h : CKX T sc sm n t S P A N K C w) : GOOD T sc sm S A N w ↔ ¬ BD4 T sc sm S P A N w ∧ ¬ BD5 T sm S A ∧ (∀ a, a < A → sm 106 a = 0 → ¬ OWN T sm (sm 112 a).toNat (sm 113 a) (T.vl (sm 107 a).toNat)) ∧ (∀ n, n < N → sm 116 n = 2 ∨ sm 116 n = 3 → ¬ OWN T sm (sm 123 n).toNat (sm 124 n) (T.vl (sm 118 n).toNat)) := by
  obtain ⟨hT, hX, hC, hD, hN, h19, h31, h34, h30, wz, tw, S8, P8, A8, N8⟩ := h
  constructor
  · intro ⟨g1, g2, g3, g4⟩
    refine ⟨fun y => ?_, fun y => ?_, fun a ha k0 => (g3 a ha).2.2 k0, fun m hm k => (g4 m hm).2.2.2 k⟩
    · rcases y with y | ⟨i, hi, y⟩ | ⟨p, hp, y⟩ | ⟨a, ha, y⟩ | ⟨m, hm, y⟩
      · exact y g1
      · exact y ⟨(g2 i hi).1, (g2 i hi).2.1, (g2 i hi).2.2.1⟩
      · obtain ⟨i, hi, q1, q2⟩ := hD.2.2.2.2.2.2.2.1.1 p hp
        have := (g2 i hi).2.2.2.2 p q1 q2
        exact y ⟨this.1, this.2.1⟩
      · exact y ⟨fun k => ⟨((g3 a ha).1 k).1, ((g3 a ha).1 k).2.1⟩, (g3 a ha).2.1⟩
      · exact y ⟨(g4 m hm).1, (g4 m hm).2.1, (g4 m hm).2.2.1⟩
    · rcases y with ⟨i, hi, y⟩ | ⟨a, ha, y⟩
      · rcases y with ⟨j, hj, y⟩ | ⟨p, p1, p2, q, q1, q2, y1, y2, y3⟩
        · exact (g2 i hi).2.2.2.1 j hj y
        · exact ((g2 i hi).2.2.2.2 p p1 p2).2.2 q q1 q2 y1 y2 y3
      · exact ((g3 a ha).1 y.1).2.2 y.2
  · intro ⟨y4, y5, ya, yn⟩
    have hw : 1 ≤ T.vl w ∧ T.vl w ≤ 64 := Classical.byContradiction (fun z => y4 (Or.inl z))
    refine ⟨hw, fun i hi => ?_, fun a ha => ?_, fun m hm => ?_⟩
    · have s1 : ¬ bdS T sm i := fun z => y4 (Or.inr (Or.inl ⟨i, hi, z⟩))
      obtain ⟨z1, z2, z3⟩ := Classical.byContradiction s1
      refine ⟨z1, z2, z3, fun j hj e => y5 (Or.inl ⟨i, hi, Or.inl ⟨j, hj, e⟩⟩), fun p p1 p2 => ?_⟩
      obtain ⟨hd, p0, pc, n0, b1, b2, b3, b4, b5, b6, b7, b8, -⟩ := hD.1 i hi
      have hp : p < P := by
        rw [b6, b7, Int.toNat_natCast, Int.toNat_natCast] at p2
        omega
      have s2 : ¬ bdP T sc sm p := fun z => y4 (Or.inr (Or.inr (Or.inl ⟨p, hp, z⟩)))
      obtain ⟨u1, u2⟩ := Classical.byContradiction s2
      exact ⟨u1, u2, fun q q1 q2 k1 k2 e => y5 (Or.inl ⟨i, hi, Or.inr ⟨p, p1, p2, q, q1, q2, k1, k2, e⟩⟩)⟩
    · have s1 : ¬ bdA T sm a := fun z => y4 (Or.inr (Or.inr (Or.inr (Or.inl ⟨a, ha, z⟩))))
      obtain ⟨z1, z2⟩ := Classical.byContradiction s1
      exact ⟨fun k => ⟨(z1 k).1, (z1 k).2, fun e => y5 (Or.inr ⟨a, ha, k, e⟩)⟩, z2, ya a ha⟩
    · have s1 : ¬ bdN T sm m := fun z => y4 (Or.inr (Or.inr (Or.inr (Or.inr ⟨m, hm, z⟩))))
      obtain ⟨z1, z2, z3⟩ := Classical.byContradiction s1
      exact ⟨z1, z2, z3, yn m hm⟩
theorem nm_iff (h : CKX T sc sm n t S P A N K C w) : (CN sc ∧ ¬ ((∃ i, i < N ∧ bcN T sc S i) ∨ (∃ i, i < C ∧ bcC T sc S i))) ↔ ¬ (BD4 T sc sm S P A N w ∨ BD5 T sm S A ∨ BD6 T sm S A N ∨ BD7 T sm S A N) := by
  have gb := good_bd h
  have hnod := fun i (hi : i < N) => h.nod hi
  obtain ⟨hT, hX, hC, hD, hN, h19, h31, h34, h30, wz, tw, S8, P8, A8, N8⟩ := h
  obtain ⟨d1, d2, d3, d4, d5, d6, d7, -⟩ := id hD
  have kind : ∀ i, i < N → sc 47 i = sm 116 i ∧ sc 50 i = sm 117 i ∧ sc 53 i = sm 120 i := fun i hi => by
    obtain ⟨cnt, q, n1, n2, n3, n4, n5, n6, n7, n8, n9, -⟩ := hN.2.2.2 i hi
    exact ⟨n5, n9, by rw [n4, n1]⟩
  constructor
  · intro ⟨cn, nb⟩ bad
    have G := d7.mp cn
    obtain ⟨g4, g5, ga, gn⟩ := gb.mp G
    have gs := G.2.1
    rcases bad with b | b | b | b
    · exact g4 b
    · exact g5 b
    · rcases b with ⟨i, hi, c1, c2, c3⟩ | ⟨a, ha, c1, c2, c3⟩
      · obtain ⟨x, x1, x0, x2, x3⟩ := (hnod i hi).choose_spec.2.2.2.2 c1
        obtain ⟨k1, k2, k3⟩ := kind i hi
        have ev := (d5 cn i hi c1.1 c1.2).1
        have z48 : sc 48 i = 0 := by
          apply Decidable.byContradiction
          intro hn
          exact c2 (ev.mp hn)
        have ok : okN T sc S x (sc 47 i) (sc 53 i) := Classical.byContradiction (fun z => nb (Or.inl ⟨i, hi, ⟨by omega, by omega, z48⟩, by rw [k2, x0, Int.toNat_natCast]; exact z⟩))
        rw [x1, Int.toNat_natCast] at c3
        exact ((okn_so hT hD gs x2 x3 (by omega)).mp ok).1 c3
      · obtain ⟨si, _, _, _, _, b5⟩ := hD.act ha
        obtain ⟨x, x1, x2, x3⟩ := b5 (Or.inl c1)
        obtain ⟨c, e1, e2, e3, e4, e5⟩ := d3.2.1 cn a ha c1
        have ok : okN T sc S x (if ¬ sc 63 c = -1 then 2 else 1) 1 := Classical.byContradiction (fun z => nb (Or.inr ⟨c, e1, e5, by rw [e2, x1, Int.toNat_natCast]; exact z⟩))
        rw [x1, Int.toNat_natCast] at c3
        exact ((okn_so hT hD gs x2 x3 (by split <;> omega)).mp ok).1 c3
    · rcases b with ⟨i, hi, c1, c2⟩ | ⟨a, ha, c1, c2⟩
      · obtain ⟨x, x1, x0, x2, x3⟩ := (hnod i hi).choose_spec.2.2.2.2 c1
        obtain ⟨k1, k2, k3⟩ := kind i hi
        rcases c2 with ⟨c2, c3⟩ | ⟨c2, j, c3, c4⟩
        · exact gn i hi (by omega) c2
        · have ev := (d5 cn i hi c1.1 c1.2).1
          have z48 : sc 48 i = 0 := by
            apply Decidable.byContradiction
            intro hn
            exact c2 (ev.mp hn)
          have ok : okN T sc S x (sc 47 i) (sc 53 i) := Classical.byContradiction (fun z => nb (Or.inl ⟨i, hi, ⟨by omega, by omega, z48⟩, by rw [k2, x0, Int.toNat_natCast]; exact z⟩))
          rw [x1, Int.toNat_natCast] at c3
          have := ((okn_so hT hD gs x2 x3 (by omega)).mp ok).2 j c3
          rw [k1, k3] at this
          exact c4 this
      · rcases c2 with c2 | ⟨c2, j, c3, c4⟩
        · exact ga a ha c1 c2
        · obtain ⟨si, _, _, _, _, b5⟩ := hD.act ha
          obtain ⟨x, x1, x2, x3⟩ := b5 (Or.inl c1)
          obtain ⟨c, e1, e2, e3, e4, e5⟩ := d3.2.1 cn a ha c1
          have ok : okN T sc S x (if ¬ sc 63 c = -1 then 2 else 1) 1 := Classical.byContradiction (fun z => nb (Or.inr ⟨c, e1, e5, by rw [e2, x1, Int.toNat_natCast]; exact z⟩))
          rw [x1, Int.toNat_natCast] at c3
          have q := ((okn_so hT hD gs x2 x3 (by split <;> omega)).mp ok).2 j c3
          apply c4
          obtain ⟨sa, _, _, _, _, _, _, b7⟩ := d2 a ha
          have h109 : sm 109 a = -1 ∨ 0 ≤ sm 109 a := by
            rcases b7 with ⟨_, _, u, _⟩ | ⟨u, -⟩ | ⟨u, -⟩ | ⟨u, -⟩
            · rcases u with u | ⟨m, u, _⟩
              · exact Or.inl u
              · exact Or.inr (by omega)
            · omega
            · omega
            · omega
          rw [e3] at q
          rcases h109 with e | e
          · rw [if_neg (by omega)] at q
            rw [if_pos (by omega)]
            unfold FIT at *
            rcases q with q | ⟨q, _⟩ | ⟨q, _⟩
            · exact Or.inl q
            · exact absurd q (by decide)
            · exact absurd q (by decide)
          · rw [if_pos (by omega)] at q
            rw [if_neg (by omega)]
            unfold FIT at *
            rcases q with ⟨q, _⟩ | q | ⟨q, _⟩
            · exact absurd q (by decide)
            · exact Or.inr (Or.inl q)
            · exact absurd q (by decide)
  · intro nb
    have n4 : ¬ BD4 T sc sm S P A N w := fun z => nb (Or.inl z)
    have n5 : ¬ BD5 T sm S A := fun z => nb (Or.inr (Or.inl z))
    have n6 : ¬ BD6 T sm S A N := fun z => nb (Or.inr (Or.inr (Or.inl z)))
    have n7 : ¬ BD7 T sm S A N := fun z => nb (Or.inr (Or.inr (Or.inr z)))
    have G : GOOD T sc sm S A N w := gb.mpr ⟨n4, n5, fun a ha k0 e => n7 (Or.inr ⟨a, ha, k0, Or.inl e⟩), fun i hi k e => n7 (Or.inl ⟨i, hi, by omega, Or.inl ⟨e, by omega⟩⟩)⟩
    have cn := d7.mpr G
    have gs := G.2.1
    refine ⟨cn, fun bad => ?_⟩
    rcases bad with ⟨i, hi, ⟨c1, c2, c3⟩, c4⟩ | ⟨c, hc, c1, c2⟩
    · obtain ⟨k1, k2, k3⟩ := kind i hi
      obtain ⟨x, x1, x0, x2, x3⟩ := (hnod i hi).choose_spec.2.2.2.2 (by omega)
      have ev := (d5 cn i hi (by omega) (by omega)).1
      have no : ¬ OWN T sm (sm 123 i).toNat (sm 124 i) (T.vl (sm 118 i).toNat) := fun z => ev.mpr z c3
      apply c4
      rw [k2, x0, Int.toNat_natCast]
      refine (okn_so hT hD gs x2 x3 (by omega)).mpr ⟨fun z => n6 (Or.inl ⟨i, hi, by omega, no, by rw [x1, Int.toNat_natCast]; exact z⟩), fun j hj => ?_⟩
      rw [k1, k3]
      exact Classical.byContradiction (fun z => n7 (Or.inl ⟨i, hi, by omega, Or.inr ⟨no, j, by rw [x1, Int.toNat_natCast]; exact hj, z⟩⟩))
    · rcases d3.1 c hc with ⟨a, ha, a2, a3, a4, a5, a6⟩ | ⟨a, _, _, _, _, _, a6⟩ | ⟨a, _, _, _, _, _, a6⟩
      · obtain ⟨si, _, _, _, _, b5⟩ := hD.act ha
        obtain ⟨x, x1, x2, x3⟩ := b5 (Or.inl a2)
        have no := (G.2.2.1 a ha).2.2 a2
        apply c2
        rw [a3, x1, Int.toNat_natCast, a4]
        refine (okn_so hT hD gs x2 x3 (by split <;> omega)).mpr ⟨fun z => n6 (Or.inr ⟨a, ha, a2, no, by rw [x1, Int.toNat_natCast]; exact z⟩), fun j hj => ?_⟩
        have q : FIT sm (if sm 109 a < 0 then 1 else 2) j 0 := Classical.byContradiction (fun z => n7 (Or.inr ⟨a, ha, a2, Or.inr ⟨no, j, by rw [x1, Int.toNat_natCast]; exact hj, z⟩⟩))
        obtain ⟨sa, _, _, _, _, _, _, b7⟩ := d2 a ha
        have h109 : sm 109 a = -1 ∨ 0 ≤ sm 109 a := by
          rcases b7 with ⟨_, _, u, _⟩ | ⟨u, -⟩ | ⟨u, -⟩ | ⟨u, -⟩
          · rcases u with u | ⟨m, u, _⟩
            · exact Or.inl u
            · exact Or.inr (by omega)
          · omega
          · omega
          · omega
        rcases h109 with e | e
        · rw [if_pos (by omega)] at q
          rw [if_neg (by omega)]
          unfold FIT at *
          rcases q with q | ⟨q, _⟩ | ⟨q, _⟩
          · exact Or.inl q
          · exact absurd q (by decide)
          · exact absurd q (by decide)
        · rw [if_neg (by omega)] at q
          rw [if_pos (by omega)]
          unfold FIT at *
          rcases q with ⟨q, _⟩ | q | ⟨q, _⟩
          · exact absurd q (by decide)
          · exact Or.inr (Or.inl q)
          · exact absurd q (by decide)
      · omega
      · rw [a6] at c1
        exfalso
        split at c1 <;> omega
end NMI
