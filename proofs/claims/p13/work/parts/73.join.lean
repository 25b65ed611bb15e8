/-! JOINT STEPS: brackets, links, new nodes. -/
/-- what is asked of a node at once -/
def NOK (T : TT) (lw : Nat → Int) (sm : Sg) (n : Nat) : Prop :=
  (sm 116 n = 0 → 1 ≤ T.vl (sm 119 n).toNat ∧ T.vl (sm 119 n).toNat ≤ 32 ∧ T.vl (sm 118 n).toNat < 2 ^ (T.vl (sm 119 n).toNat).toNat) ∧
  (sm 116 n = 4 ∨ sm 116 n = 5 → 1 ≤ T.vl (sm 119 n).toNat ∧ T.vl (sm 119 n).toNat ≤ 32) ∧
  (sm 116 n = 7 → T.vl (sm 118 n).toNat ≤ 31 ∧ T.vl (sm 119 n).toNat ≤ 31 ∧ T.vl (sm 119 n).toNat ≤ T.vl (sm 118 n).toNat) ∧
  (sm 116 n = 2 ∨ sm 116 n = 3 → lw (T.vl (sm 118 n).toNat).toNat = 0)
theorem NOK.congr {T : TT} {lw : Nat → Int} {sm sm' : Sg} {n : Nat} (h : ∀ c, 116 ≤ c → c ≤ 124 → sm' c n = sm c n) : NOK T lw sm' n ↔ NOK T lw sm n := by
  unfold NOK
  rw [h 116 (by decide) (by decide), h 118 (by decide) (by decide), h 119 (by decide) (by decide)]
section JN
variable {T : TT} {sc sm sc1 sm1 sc2 sm2 : Sg} {sn rp : Int} {N K o c l0 l1 n0 : Nat} {k st fi cnt wd nu lv fi' lx nm : Int}
theorem use_m {w : Int} {n : Nat} (h : OBR T sc sm o l0 l1 (if w ≤ lev (sm 116 n) then 2 else 0)) (hn : sm 126 o = (n : Int)) (h0 : 0 ≤ sm 116 n) (h1 : sm 116 n ≤ 21) (hn8 : n < 8200) (ho : o < 8200) (hl : l1 ≤ 8192) :
    ∃ sm' : Sg, f_265 (o : Int) w sm = some sm' ∧ (∀ k, l0 ≤ k → k < l1 → LF T sc sm' k) ∧ (∀ k, k < l0 ∨ l1 ≤ k → sm' 91 k = sm 91 k) ∧ (∀ c, c ≠ 91 → sm' c = sm c) := by
  unfold f_265
  rw [gd_pos (by omega), Int.toNat_natCast]
  rcases h with ⟨b1, b2⟩ | ⟨p, c, b1, b2, b3, b4, b5, b6, b7, b8⟩
  · rw [if_pos (by omega)]
    exact ⟨sm, rfl, b2, fun _ _ => rfl, fun _ _ => rfl⟩
  · rw [if_neg (by omega), gd_pos (by omega), gd_pos (by omega), hn, Int.toNat_natCast, f268 _ h0 h1]
    have t61 : ∀ k, DR T k → T.tk k ≠ 61 := fun k hd => by
      rcases hd with d | d
      · rw [d.1]; decide
      · rw [d.1]; decide
    by_cases d : w ≤ lev (sm 116 n)
    · rw [if_pos d] at b6 b7
      rw [if_pos d, gd_pos (by omega), gd_pos (by omega), gd_pos (by omega), gd_pos (by omega), b1, Int.toNat_natCast, b2, gd_pos (by omega), Int.toNat_natCast]
      refine ⟨_, rfl, ?_, ?_, ?_⟩
      · intro k x y
        by_cases ep : k = p
        · subst ep
          obtain ⟨q1, q2, q3, q4, q5⟩ := b6
          have t6 := t61 _ q5
          refine ⟨?_, ?_, ?_, fun _ => q5, fun y => by rw [q1] at y; exact absurd y (by decide)⟩
          · rw [q1]; simp [ax_u2]
          · rw [q1]; simp [ax_u2, q3, t6]
          · rw [q1]; simp [ax_u2, q4]
        · by_cases ec : k = c
          · subst ec
            obtain ⟨q1, q2, q3, q4, q5⟩ := b7
            have t6 := t61 _ q5
            refine ⟨?_, ?_, ?_, fun _ => q5, fun y => by rw [q1] at y; exact absurd y (by decide)⟩
            · rw [q1]; simp [ax_u2]
            · rw [q1]; simp [ax_u2, q3, t6]
            · rw [q1]; simp [ax_u2, q4]
          · exact (b8 k x y ep ec).congr rfl (by simp [ax_u2, ep, ec]) (by simp [ax_u2]) (by simp [ax_u2])
      · intro k x
        simp [ax_u2, show k ≠ p by omega, show k ≠ c by omega]
      · intro b hb
        funext x
        simp [ax_u2, hb]
    · rw [if_neg d] at b6 b7
      rw [if_neg d]
      refine ⟨sm, rfl, ?_, fun _ _ => rfl, fun _ _ => rfl⟩
      intro k x y
      by_cases ep : k = p
      · subst ep
        obtain ⟨q1, q2, q3, q4, q5⟩ := b6
        have t6 := t61 _ q5
        refine ⟨?_, ?_, ?_, fun _ => q5, fun y => by rw [q1] at y; exact absurd y (by decide)⟩
        · rw [q1, q2]; simp
        · rw [q1, q3]; simp [t6]
        · rw [q1, q4]; simp
      · by_cases ec : k = c
        · subst ec
          obtain ⟨q1, q2, q3, q4, q5⟩ := b7
          have t6 := t61 _ q5
          refine ⟨?_, ?_, ?_, fun _ => q5, fun y => by rw [q1] at y; exact absurd y (by decide)⟩
          · rw [q1, q2]; simp
          · rw [q1, q3]; simp [t6]
          · rw [q1, q4]; simp
        · exact b8 k x y ep ec
theorem want_c {w L : Int} (hc : CC T sc) (h : OBR T sc sm o l0 l1 2) (hz : l1 ≤ T.z) (h8 : T.z ≤ 8192) (hL : sc 66 10 = L) (h11 : sc 66 11 = sm 128 o) (h12 : sm 128 o = -1 → sc 66 12 = -1) (h13 : ∀ p : Nat, sm 128 o = (p : Int) → sc 66 12 = sm 132 p) :
    ∃ sc' : Sg, f_63 w sc = some sc' ∧ OBR T sc' sm o l0 l1 (if w ≤ L then 2 else 0) ∧ (∀ k, k < l0 ∨ l1 ≤ k → sc' 45 k = sc 45 k) ∧ (∀ c, c ≠ 45 → sc' c = sc c) := by
  unfold f_63
  rw [hL]
  by_cases d : w ≤ L
  · rw [if_pos d, if_pos d]
    exact ⟨sc, rfl, h, fun _ _ => rfl, fun _ _ => rfl⟩
  · rw [if_neg d, if_neg d]
    rcases h with ⟨b1, b2⟩ | ⟨p, c, b1, b2, b3, b4, b5, b6, b7, b8⟩
    · have e1 : f_99 (sc 66 11) 0 sc = sc := by unfold f_99; rw [if_pos (by rw [h11, b1]; decide)]
      have e2 : f_99 (sc 66 12) 0 sc = sc := by unfold f_99; rw [if_pos (by rw [h12 b1]; decide)]
      have g1 : g_99 (sc 66 11) 0 sc := by rw [h11, b1]; exact ⟨fun _ => trivial, fun h => absurd (by decide) h⟩
      have g2 : g_99 (sc 66 12) 0 sc := by rw [h12 b1]; exact ⟨fun _ => trivial, fun h => absurd (by decide) h⟩
      rw [gd_pos g1, e1]
      simp only [Option.bind_some]
      rw [gd_pos g2, e2]
      exact ⟨sc, rfl, Or.inl ⟨b1, b2⟩, fun _ _ => rfl, fun _ _ => rfl⟩
    · have hz9 := hc.1
      have e1 : f_99 (sc 66 11) 0 sc = ax_u2 sc 45 p 0 := by unfold f_99; rw [h11, b1, if_neg (by omega), if_neg (by omega), Int.toNat_natCast]
      have g1 : g_99 (sc 66 11) 0 sc := by rw [h11, b1]; exact ⟨fun _ => trivial, fun h => ⟨fun _ => trivial, fun _ => ⟨⟨by omega, by omega⟩, trivial⟩⟩⟩
      have e12 : (ax_u2 sc 45 p 0) 66 12 = (c : Int) := by
        have := h13 p b1
        rw [b2] at this
        simpa [ax_u2] using this
      have e2 : f_99 (c : Int) 0 (ax_u2 sc 45 p 0) = ax_u2 (ax_u2 sc 45 p 0) 45 c 0 := by
        have : (ax_u2 sc 45 p 0) 39 9 = (T.z : Int) := by simpa [ax_u2] using hz9
        unfold f_99
        rw [this, if_neg (by omega), if_neg (by omega), Int.toNat_natCast]
      have g2 : g_99 (c : Int) 0 (ax_u2 sc 45 p 0) := ⟨fun _ => trivial, fun h => ⟨fun _ => trivial, fun _ => ⟨⟨by omega, by omega⟩, trivial⟩⟩⟩
      rw [gd_pos g1, e1]
      simp only [Option.bind_some]
      rw [e12, gd_pos g2, e2]
      refine ⟨_, rfl, Or.inr ⟨p, c, b1, b2, b3, b4, b5, ?_, ?_, ?_⟩, ?_, ?_⟩
      · obtain ⟨q1, q2⟩ := b6
        exact ⟨by simp [ax_u2], q2⟩
      · obtain ⟨q1, q2⟩ := b7
        exact ⟨by simp [ax_u2], q2⟩
      · intro k x y u v
        exact (b8 k x y u v).congr (by simp [ax_u2, u, v]) rfl rfl rfl
      · intro k x
        simp [ax_u2, show k ≠ p by omega, show k ≠ c by omega]
      · intro b hb
        funext x
        simp [ax_u2, hb]
/-- a root is linked -/
theorem link_c {x y : Int} {r : Nat} (hx : x = (r : Int)) (h46 : sc 46 7 = (N : Int)) (hr : r < N) (hN : N ≤ 8192) : g_126 x y sc ∧ f_126 x y sc = ax_u2 sc 52 r y := by
  subst hx
  have e : f_114 (r : Int) sc = 1 := by unfold f_114; rw [h46, if_neg (by omega), if_neg (by omega)]
  exact ⟨⟨fun _ => trivial, fun _ => ⟨⟨by omega, by omega⟩, trivial⟩⟩, by unfold f_126; rw [e, if_neg (by decide), Int.toNat_natCast]⟩
theorem ND.link (h : ND T sc sm N K) {r : Nat} {y : Int} (hr : ¬ CHD sm N r) : ND T (ax_u2 sc 52 r y) sm N K := by
  refine ⟨by simpa [ax_u2] using h.1, h.2.1, h.2.2.1, fun n hn => ?_⟩
  refine (h.2.2.2 n hn).congr (fun c x y w => by simp [ax_u2, w]) (fun x hx => ?_) (fun _ _ _ => rfl) (fun _ _ => rfl) (Nat.le_refl _)
  have : x ≠ r := fun e => by
    subst e
    obtain ⟨n', c, q, i, b1, b2⟩ := hx
    exact hr ⟨n', c, q, i, by omega, b2⟩
  simp [ax_u2, this]
theorem ND.make (h : ND T sc sm N K) (hC : MKC sc sc2 N k st fi cnt wd nu lv) (hM : MKM sm sm2 N K o c k fi' lx nm) (hcnt : cnt = (c : Int)) (hst : st = fi') {stn : Nat} (hstn : st = (stn : Int)) (hsz : stn < T.z) (hk0 : 0 ≤ k) (hk1 : k ≤ 21) (hA : AR k c)
    (hfi : fi = (if 0 < c then sm 126 o else -1)) (hch : ∀ i, i < c → ∃ x : Nat, sm 126 (o + i) = (x : Int) ∧ x < N ∧ sc 52 x = (if i + 1 < c then sm 126 (o + (i + 1)) else -1)) (hV : NV T sc2 sm2 N) : ND T sc2 sm2 (N + 1) (K + c) := by
  obtain ⟨p1, p2, p3, p4, p5, p6, p7, p8, p9, p10, p11, p12, p13, p14, p15, p16, p17⟩ := hC
  obtain ⟨q1, q2, q3, q4, q5, q6, q7, q8, q9, q10, q11, q12, q13, q14, q15, q16, q17, q18, q19, q20⟩ := hM
  refine h.add p1 q1 q2 (by omega) (fun b n x y _ w => p14 b n x y (by omega)) (fun x hx => ?_) (fun b n x y w => q16 b n x y (by omega)) q17 ?_
  · obtain ⟨n, _, _, _, b1, _, _, _, _, b6⟩ := h.chd hx
    exact p14 52 x (by decide) (by decide) (by omega)
  · refine ⟨c, K, q8, q9, Nat.le_refl _, by rw [p8, hcnt], by rw [p2, q4], by rw [q4]; exact hk0, by rw [q4]; exact hk1, by rw [q4]; exact hA, by rw [p5, q5, hst], ⟨stn, by rw [q5, ← hst, hstn], hsz⟩, ?_, ?_, hV⟩
    · rw [p6, hfi]
      by_cases d : 0 < c
      · rw [if_pos d, if_pos d]
        have := q12 0 d
        rw [Nat.add_zero, Nat.add_zero] at this
        exact this.symm
      · rw [if_neg d, if_neg d]
    · intro i hi
      obtain ⟨x, b1, b2, b3⟩ := hch i hi
      refine ⟨x, by rw [q12 i hi]; exact b1, b2, ?_⟩
      rw [p14 52 x (by decide) (by decide) (by omega), b3]
      by_cases d : i + 1 < c
      · rw [if_pos d, if_pos d, q12 (i + 1) d]
      · rw [if_neg d, if_neg d]
/-- a stretch with a new node on top, not a call -/
theorem SEG.addn (h : SEG T sc sm sn rp K l0 l1 n0 N) (hM : MKM sm sm2 N K o c k fi' lx nm) (h48 : ∀ n, n < N → sc2 48 n = sc 48 n) (h37 : sc2 37 = sc 37) (hk : k ≠ 3) (hl : N + 1 + l0 ≤ l1 + n0) (hch : ∀ i, i < c → (n0 : Int) ≤ sm 126 (o + i)) (hsn : sm 84 68 = sn) (hrp : sm 84 46 = rp) (hw : 1 ≤ k → k ≤ 3 → sc2 48 N = sc 37 (T.vl lx.toNat).toNat) : SEG T sc2 sm2 sn rp (K + c) l0 l1 n0 (N + 1) := by
  obtain ⟨q1, q2, q3, q4, q5, q6, q7, q8, q9, q10, q11, q12, q13, q14, q15, q16, q17, q18, q19, q20⟩ := hM
  obtain ⟨a1, a2, a3, a4, a5, a6, a7, a8, a9, a10⟩ := h.congr (sc' := sc2) (sm' := sm2) (K' := K + c) (fun b n x y _ w => q16 b n x y (by omega)) (fun n _ w => h48 n w) h37 q17 (by omega)
  refine ⟨by omega, a2, by omega, ?_, ?_, ?_, ?_, ?_, a9, a10⟩
  · intro m x y
    by_cases e : m = N
    · subst e
      exact ⟨c, K, q8, q9, Nat.le_refl _, fun i hi => by rw [q12 i hi]; exact hch i hi⟩
    · exact a4 m x (by omega)
  · intro m x y
    by_cases e : m = N
    · subst e
      rw [q4, q6, q10, q11, hsn, hrp, h37]
      exact ⟨rfl, rfl, hw⟩
    · exact a5 m x (by omega)
  · intro m x y u
    by_cases e : m = N
    · subst e
      rw [q4] at u
      exact absurd u hk
    · exact a6 m x (by omega) u
  · intro i x y u v
    obtain ⟨m, d1, d2, d3⟩ := a7 i x y u v
    exact ⟨m, d1, by omega, d3⟩
  · intro m m' x y x' y' u u' e
    by_cases e1 : m = N
    · subst e1
      rw [q4] at u
      exact absurd u hk
    · by_cases e2 : m' = N
      · subst e2
        rw [q4] at u'
        exact absurd u' hk
      · exact a8 m m' x (by omega) x' (by omega) u u' e
/-- a call: its name, its bracket, what is in it, its bracket -/
theorem SEG.call {x r : Nat} (h : SEG T sc sm sn rp K (x + 2) r n0 N) (hM : MKM sm sm2 N K o c 3 fi' (x : Int) nm) (h48 : ∀ n, n < N → sc2 48 n = sc 48 n) (h37 : sc2 37 = sc 37) (hch : ∀ i, i < c → (n0 : Int) ≤ sm 126 (o + i)) (hsn : sm 84 68 = sn) (hrp : sm 84 46 = rp) (hw : sc2 48 N = sc 37 (T.vl x).toNat)
    (ht1 : T.tk x = 1) (ht2 : T.tk (x + 1) = 40) (ht3 : T.tk r = 41) (hp1 : PRX (T.tk (x - 1)) (T.tk x)) (hp2 : PRX (T.tk x) (T.tk (x + 1))) (hp3 : PRX (T.tk (r - 1)) (T.tk r)) : SEG T sc2 sm2 sn rp (K + c) x (r + 1) n0 (N + 1) := by
  obtain ⟨q1, q2, q3, q4, q5, q6, q7, q8, q9, q10, q11, q12, q13, q14, q15, q16, q17, q18, q19, q20⟩ := hM
  obtain ⟨a1, a2, a3, a4, a5, a6, a7, a8, a9, a10⟩ := h.congr (sc' := sc2) (sm' := sm2) (K' := K + c) (fun b n x y _ w => q16 b n x y (by omega)) (fun n _ w => h48 n w) h37 q17 (by omega)
  refine ⟨by omega, by omega, by omega, ?_, ?_, ?_, ?_, ?_, ?_, ?_⟩
  · intro m x y
    by_cases e : m = N
    · subst e
      exact ⟨c, K, q8, q9, Nat.le_refl _, fun i hi => by rw [q12 i hi]; exact hch i hi⟩
    · exact a4 m x (by omega)
  · intro m u v
    by_cases e : m = N
    · subst e
      rw [q4, q6, q10, q11, hsn, hrp, h37]
      refine ⟨rfl, rfl, fun _ _ => ?_⟩
      rw [Int.toNat_natCast]
      exact hw
    · exact a5 m u (by omega)
  · intro m u v w
    by_cases e : m = N
    · subst e
      exact ⟨x, by omega, by omega, q6, ht1, ht2⟩
    · obtain ⟨i, d1, d2, d3⟩ := a6 m u (by omega) w
      exact ⟨i, by omega, by omega, d3⟩
  · intro i u v e1 e2
    by_cases e : i = x
    · subst e
      exact ⟨N, by omega, by omega, q4, q6⟩
    · by_cases e3 : i = x + 1
      · subst e3
        rw [ht2] at e1
        exact absurd e1 (by decide)
      · by_cases e4 : i = r
        · subst e4
          rw [ht3] at e1
          exact absurd e1 (by decide)
        · obtain ⟨m, d1, d2, d3⟩ := a7 i (by omega) (by omega) e1 e2
          exact ⟨m, d1, by omega, d3⟩
  · intro m m' u v u' v' w w' e
    by_cases e1 : m = N
    · by_cases e2 : m' = N
      · omega
      · obtain ⟨i, d1, d2, d3, _⟩ := a6 m' u' (by omega) w'
        subst e1
        omega
    · by_cases e2 : m' = N
      · obtain ⟨i, d1, d2, d3, _⟩ := a6 m u (by omega) w
        subst e2
        omega
      · exact a8 m m' u (by omega) u' (by omega) w w' e
  · intro i u v
    by_cases e : i = x
    · subst e; exact hp1
    · by_cases e3 : i = x + 1
      · subst e3; exact hp2
      · by_cases e4 : i = r
        · subst e4; exact hp3
        · exact a9 i (by omega) (by omega)
  · have e : r + 1 - x = 1 + (1 + ((r - (x + 2)) + 1)) := by omega
    rw [e, lcT_add, lcT_add, lcT_add]
    have s1 : lcT T x 1 ≤ 1 := by simp only [lcT]; split <;> omega
    have s2 : lcT T (x + 1) 1 = 0 := by simp [lcT, ht2]
    have s3 : lcT T (x + 1 + 1 + (r - (x + 2))) 1 = 0 := by rw [show x + 1 + 1 + (r - (x + 2)) = r by omega]; simp [lcT, ht3]
    rw [s2, s3]
    have : x + 1 + 1 = x + 2 := rfl
    rw [this]
    omega
end JN
