/-! THE WALK OF A METHOD's BODY. -/
theorem so_l5 {cls b k : Nat} {init : Bool} {i : Instr} {d : Int} (hg : ax_grp i = 3) (h : tb_l cls init (i, 5, b, k, d) = true) : ∃ idx, i = .invokespecial idx ∧ Cond.methodLink (tb_RN cls) idx objectInit ∈ lw_tbl := by
  cases i with
  | invokevirtual idx => simp [tb_l] at h
  | invokestatic idx => simp [tb_l] at h
  | invokespecial idx => exact ⟨idx, rfl, so_lk (show tb_k k (13, cls, idx, 0, 0, 0) = true from h)⟩
  | _ => exact absurd hg (by simp [ax_grp])
theorem so_l6 {cls b k : Nat} {init : Bool} {i : Instr} {d : Int} (hg : ax_grp i = 3) (h : tb_l cls init (i, 6, b, k, d) = true) : ∃ idx, i = .invokestatic idx ∧ Cond.methodLink (tb_RN cls) idx arraycopyName ∈ lw_tbl := by
  cases i with
  | invokevirtual idx => simp [tb_l] at h
  | invokespecial idx => simp [tb_l] at h
  | invokestatic idx => exact ⟨idx, rfl, so_lk (show tb_k k (14, cls, idx, 0, 0, 0) = true from h)⟩
  | _ => exact absurd hg (by simp [ax_grp])
theorem so_l7 {cls b k : Nat} {init : Bool} {i : Instr} {d : Int} (hg : ax_grp i = 3) (h : tb_l cls init (i, 7, b, k, d) = true) : ∃ idx, i = .invokespecial idx ∧ Cond.methodLink (tb_RN cls) idx ⟨tb_RN b, "<init>", "(Ljava/lang/String;)V"⟩ ∈ lw_tbl ∧ 14 ≤ b ∧ b < 17 := by
  cases i with
  | invokevirtual idx => simp [tb_l] at h
  | invokestatic idx => simp [tb_l] at h
  | invokespecial idx =>
    have h2 : (tb_k k (15, cls, idx, 0, b, 0) && decide (14 ≤ b) && decide (b < 17)) = true := h
    simp only [Bool.and_eq_true, decide_eq_true_eq] at h2
    exact ⟨idx, rfl, so_lk h2.1.1, h2.1.2, h2.2⟩
  | _ => exact absurd hg (by simp [ax_grp])
theorem so_nexta {y pc : Nat} (hm : tb_mok y = true) (h : ax_nexta (tb_M y) pc = true) : decode (tb_bytes y) (pc + 3) = .ok (.athrow, 1) := by
  unfold ax_nexta at h
  split at h
  · rename_i q hq
    unfold tb_mok at hm
    rw [Bool.and_eq_true] at hm
    obtain ⟨htd, -⟩ := so_all _ 0 (pc + 3) _ hm.1 hq
    rw [Nat.zero_add] at htd
    obtain ⟨n, h1, h2, -⟩ := so_dec htd
    rw [h2 rfl] at h1
    exact h1
  · cases h
theorem so_throw_nexta {μ : ax_M} {pc x : Nat} {st : List ax_V} {h h' : ax_H} {o : ax_O} (h1 : ax_throw μ pc x st h = some (o, h')) : ax_nexta μ pc = true ∧ h'.1 = h.1 ∧ h'.2.1 = h.2.1 := by
  unfold ax_throw at h1
  split at h1
  · split at h1
    · rename_i hc
      cases h1
      exact ⟨hc.2.2.2.2.1, rfl, rfl⟩
    · cases h1
  · cases h1
section SOb
variable {p : Program} {l : Launch} {e : Env} {R : Room} {s : State} {m : MethodId} {args : Array Value} {below : List Frame} {meth : Method} {c : Code}
variable {y : Nat} {ad : Nat → Option Nat} {H0 : Heap}
theorem so_W_num {H : Heap} {locs : List Loc} {c1 s1 c2 s2 : Nat} {Q : State → Prop} {g : JFrame} (h1 : c1 = c2) (h2 : s1 = s2) (h : W p l e R s m args below meth c H locs c1 s1 Q g) : W p l e R s m args below meth c H locs c2 s2 Q g := by
  subst h1 h2
  exact h
theorem so_run {F n : Nat} (hMw : so_Mws) (hC : ∀ (y : Nat) (av : List ax_V) (h : ax_H) (o : ax_O) (h' : ax_H), y < 302 → y ≠ tb_law → so_okS av → ax_ev F n y av h = some (o, h') → so_Met l ad H0 n y av h o h')
    (X : so_Ctx p e s m args meth c ad H0 y) (hfr : n + 11 ≤ R.frames) (hloc : 60 * n + 260 ≤ R.locals) :
    ∀ (f pc : Nat) (ls : ax_L) (lsA : Array Slot) (st : List ax_V) (h : ax_H) (H : Heap) (locs : List Loc) (cells slots : Nat) (o : ax_O) (h' : ax_H), ax_run (ax_ev F n) (tb_M y) f pc ls st h = some (o, h') →
      so_L ad lsA (tb_M y).2.1 ls → so_okL ls → so_okS st → so_Rel s ad H0 h H → (∀ q ∈ locs, H0.size ≤ q.base) → cells + (h'.1 - h.1) ≤ R.cells → slots + (h'.2.1 - h.2.1) ≤ R.slots →
      W p l e R s m args below meth c H locs cells slots (so_Z below ad H0 s o h' (cells + (h'.1 - h.1)) (slots + (h'.2.1 - h.2.1))) (F0 m pc lsA (st.map (so_v ad))) := by
  obtain ⟨x1, x2, x3, x4, x5, x6, x7, x8, x9, x10, x11, x12, x13⟩ := id X
  have hle := so_run_le (call := ax_ev F n) (μ := tb_M y) (so_ev_le F n)
  intro f
  induction f with
  | zero => intro pc ls lsA st h H locs cells slots o h' h1; cases h1
  | succ f ih =>
    intro pc ls lsA st h H locs cells slots o h' h1 hL okL okS hR hlo hcells hslots
    have hsize : lsA.size = c.maxLocals := by rw [x3]; exact hL.2.1
    rw [ax_run] at h1
    have hmok := x13
    unfold tb_mok at hmok
    rw [Bool.and_eq_true] at hmok
    cases hat : ax_at (tb_M y).2.2.2.2.2 pc with
    | none => simp [ax_step, hat] at h1
    | some ent =>
    obtain ⟨i, a, b, k, d⟩ := ent
    obtain ⟨htd, htl⟩ := so_all _ 0 pc _ hmok.1 hat
    rw [Nat.zero_add] at htd
    obtain ⟨len, hdg, hlen, hfine, hjok⟩ := so_dec htd
    have hstep : ax_step (tb_M y) pc ls st h = ax_do (tb_M y) i a b d pc ls st h := by unfold ax_step; rw [hat]
    rw [hstep] at h1
    unfold ax_do at h1
    cases hg : ax_grp i with
    | zero =>
      rw [hg] at h1
      cases hp : ax_pure i ls st with
      | none => simp [hp] at h1
      | some q =>
        obtain ⟨ls', st'⟩ := q
        simp only [hp] at h1
        have hsw : ax_sw i = false := by cases i <;> first | rfl | cases hg
        rw [hlen hsw] at hdg
        exact so_pure x1 x2 hdg hfine hL okL okS hp (fun lsB g1 g2 g3 => ih _ _ _ _ _ _ _ _ _ _ _ h1 g1 g2 g3 hR hlo hcells hslots)
    | succ g1 =>
    cases g1 with
    | zero =>
      rw [hg] at h1
      cases hp : ax_jump i pc st with
      | none => simp [hp] at h1
      | some q =>
        obtain ⟨pc', st'⟩ := q
        simp only [hp] at h1
        exact so_jump x1 x2 hdg hlen hfine hjok okS hp (fun g3 => ih _ _ _ _ _ _ _ _ _ _ _ h1 hL okL g3 hR hlo hcells hslots)
    | succ g2 =>
    cases g2 with
    | zero =>
      rw [hg] at h1
      cases hp : ax_heap i a b d st h with
      | none => simp [hp] at h1
      | some q =>
        obtain ⟨st', h2⟩ := q
        simp only [hp] at h1
        have l1 := so_heap_le hp
        have l2 := hle _ _ _ _ _ _ _ h1
        obtain ⟨l11, l12⟩ := l1
        obtain ⟨l21, l22⟩ := l2
        refine so_heap X hR hlo okS hat hp (by omega) (by omega) (fun H' locs' r1 r2 r3 => ?_)
        have := ih _ _ lsA _ _ H' locs' (cells + (h2.1 - h.1)) (slots + (h2.2.1 - h.2.1)) _ _ h1 hL okL r3 r1 r2 (by omega) (by omega)
        rw [show cells + (h2.1 - h.1) + (h'.1 - h2.1) = cells + (h'.1 - h.1) by omega, show slots + (h2.2.1 - h.2.1) + (h'.2.1 - h2.2.1) = slots + (h'.2.1 - h.2.1) by omega] at this
        exact this
    | succ g3 =>
    cases g3 with
    | zero =>
      rw [hg] at h1
      simp only at h1
      have hsw : ax_sw i = false := by cases i <;> first | rfl | cases hg
      have hl3 : ax_len i = 3 := by cases i <;> first | rfl | cases hg
      rw [hlen hsw, hl3] at hdg
      unfold ax_inv at h1
      by_cases e5 : a = 5
      · subst e5
        rw [if_pos rfl] at h1
        obtain ⟨idx, rfl, hlink⟩ := so_l5 hg htl
        split at h1
        · cases h1
        · rename_i hs
          split at hs
          · split at hs
            · rename_i hc
              cases hs
              exact so_objW X (by omega) (by omega) hsize hlink hdg hc.2 hc.1 (ih _ _ _ _ _ _ _ _ _ _ _ h1 hL okL okS.tl hR hlo hcells hslots)
            · cases hs
          · cases hs
        · rename_i hs
          split at hs
          · split at hs
            · cases hs
            · cases hs
          · cases hs
        · rename_i hs
          split at hs
          · split at hs
            · cases hs
            · cases hs
          · cases hs
      · rw [if_neg e5] at h1
        by_cases e6 : a = 6
        · subst e6
          rw [if_pos rfl] at h1
          obtain ⟨idx, rfl, hlink⟩ := so_l6 hg htl
          cases hcp : ax_copy st h with
          | none => simp [hcp] at h1
          | some q =>
            obtain ⟨st', h2⟩ := q
            simp only [hcp] at h1
            by_cases hw : ax_wt st' ≤ 20
            · simp only [if_pos hw] at h1
              have l0 : h2.1 = h.1 ∧ h2.2.1 = h.2.1 := by
                unfold ax_copy at hcp
                split at hcp
                · split at hcp
                  · cases hcp; exact ⟨rfl, rfl⟩
                  · cases hcp
                · cases hcp
              refine so_copyW X hR hlo okS (by omega) (by omega) hsize hlink hdg hcp hw (fun H' locs' r1 r2 r3 => ?_)
              have := ih _ _ lsA _ _ H' locs' cells slots _ _ h1 hL okL r3 r1 r2 (by rw [l0.1]; exact hcells) (by rw [l0.2]; exact hslots)
              rw [l0.1, l0.2] at this
              exact this
            · simp [if_neg hw] at h1
        · rw [if_neg e6] at h1
          by_cases e7 : a = 7
          · subst e7
            rw [if_pos rfl] at h1
            obtain ⟨idx, rfl, hlink, hb1, hb2⟩ := so_l7 hg htl
            cases hth : ax_throw (tb_M y) pc b st h with
            | none => simp [hth] at h1
            | some q =>
              obtain ⟨oc, h2⟩ := q
              simp only [hth] at h1
              cases h1
              obtain ⟨n1, n2, n3⟩ := so_throw_nexta hth
              have := so_throwW (R := R) (below := below) (l := l) (cells := cells) (slots := slots) X hR hlo (by omega) (by omega) (by omega) (by omega) hsize hb1 hb2 hlink hdg (so_nexta x13 n1) hth
              rw [n2, n3, Nat.sub_self, Nat.sub_self, Nat.add_zero, Nat.add_zero]
              exact this
          · rw [if_neg e7] at h1
            cases ha : ax_args a b d.toNat st h with
            | none => simp [ha] at h1
            | some q =>
              obtain ⟨as, r⟩ := q
              simp only [ha] at h1
              by_cases hw : ax_wt r ≤ 20
              · simp only [if_pos hw] at h1
                obtain ⟨hb1, hb2, hent⟩ := so_entA (l := l) (R := R) (below := below) (locs := locs) (cells := cells) (slots := slots) (lsA := lsA) X hR hMw hg e5 e6 e7 htl hdg ha
                obtain ⟨okA, okR⟩ := so_args_ok okS ha
                cases hev : ax_ev F n b as h with
                | none => simp [hev] at h1
                | some q =>
                  obtain ⟨oc, h2⟩ := q
                  simp only [hev] at h1
                  obtain ⟨l11, l12⟩ := so_ev_le F n _ _ _ _ _ hev
                  have hM := hC b as h oc h2 hb1 hb2 okA hev
                  cases oc with
                  | inl v =>
                    simp only at h1
                    obtain ⟨l21, l22⟩ := hle _ _ _ _ _ _ _ h1
                    refine so_callW X hR hlo hM (hMw b hb1 hb2) hw hfr hloc (by omega) (by omega) hsize hdg hent (fun w hw2 hfo H' locs' r1 r2 => ?_) (fun x hx => by cases hx)
                    cases hw2
                    have := ih _ _ lsA _ _ H' locs' (cells + (h2.1 - h.1)) (slots + (h2.2.1 - h.2.1)) _ _ h1 hL okL (by
                      cases v with
                      | none => exact okR
                      | some w => exact so_okS.cons (hfo.1 w rfl) okR) r1 r2 (by omega) (by omega)
                    rw [show cells + (h2.1 - h.1) + (h'.1 - h2.1) = cells + (h'.1 - h.1) by omega, show slots + (h2.2.1 - h.2.1) + (h'.2.1 - h2.2.1) = slots + (h'.2.1 - h.2.1) by omega] at this
                    exact this
                  | inr x =>
                    simp only at h1
                    cases hct : ax_catch (tb_M y).2.2.2.2.1 pc (ax_ex h2 x) with
                    | some t =>
                      simp only [hct] at h1
                      obtain ⟨l21, l22⟩ := hle _ _ _ _ _ _ _ h1
                      refine so_callW X hR hlo hM (hMw b hb1 hb2) hw hfr hloc (by omega) (by omega) hsize hdg hent (fun w hw2 => by cases hw2) (fun x2 hx hfo T' locs' S' r1 r2 => ?_)
                      cases hx
                      obtain ⟨z, z1, z2, z3, z4⟩ := hfo.2 x rfl
                      refine so_handler X S' r1 z1 z2 z3 hct ?_
                      have := ih _ _ lsA _ _ T'.heap locs' (cells + (h2.1 - h.1)) (slots + (h2.2.1 - h.2.1)) _ _ h1 hL okL (so_okS.cons trivial (fun v hv => by cases hv)) r1 r2 (by omega) (by omega)
                      rw [show cells + (h2.1 - h.1) + (h'.1 - h2.1) = cells + (h'.1 - h.1) by omega, show slots + (h2.2.1 - h.2.1) + (h'.2.1 - h2.2.1) = slots + (h'.2.1 - h.2.1) by omega] at this
                      exact this
                    | none =>
                      simp only [hct] at h1
                      by_cases htab : (tb_M y).2.2.2.2.1 = []
                      · rw [if_pos htab] at h1
                        cases h1
                        refine so_callW X hR hlo hM (hMw b hb1 hb2) hw hfr hloc (by omega) (by omega) hsize hdg hent (fun w hw2 => by cases hw2) (fun x2 hx hfo T' locs' S' r1 r2 => ?_)
                        cases hx
                        exact so_leave X S' r1 r2 htab hfo
                      · rw [if_neg htab] at h1
                        cases h1
              · simp [if_neg hw] at h1
    | succ g4 =>
      rw [hg] at h1
      cases hp : ax_rtn (tb_M y) i st with
      | none => simp [hp] at h1
      | some v =>
        simp only [hp] at h1
        cases h1
        have hsw : ax_sw i = false := by cases i <;> first | rfl | cases hg
        refine so_W_num rfl rfl ?_
        rw [Nat.sub_self, Nat.sub_self, Nat.add_zero, Nat.add_zero]
        exact so_rets X hR hlo okS hdg (hlen hsw) hp
end SOb
