/-! THE WALK OF A METHOD's BODY. -/
theorem so_l5 {cls b k : Nat} {init : Bool} {i : Instr} {d : Int} (hg : ax_grp i = 3) (h : tb_l cls init (i, 5, b, k, d) = true) : ∃ idx, i = .invokespecial idx ∧ Cond.methodLink (tb_RN cls) idx objectInit ∈ lw_tbl := by
  cases i with
  | invokevirtual idx => simp [tb_l] at h
  | invokestatic idx => simp [tb_l] at h
  | invokespecial idx => exact ⟨idx, rfl, so_lk (show tb_k k (13, cls, idx, 0, 0, 0) = true from h)⟩
  | _ => exact absurd hg (by simp [ax_grp])
theorem so_l6 {cls b k : Nat} {init : Bool} {i : Instr} {d : Int} (hg : ax_grp i = 3) (h : tb_l cls init (i, 6, b, k, d) = true) : ∃ idx, i = .invokestatic idx ∧ Cond.methodLink (tb_RN cls) idx arraycopyName ∈ lw_tbl := by
  cases i with
  | invokevirtual idx => simp [tb_l] at h
  | invokespecial idx => simp [tb_l] at h
  | invokestatic idx => exact ⟨idx, rfl, so_lk (show tb_k k (14, cls, idx, 0, 0, 0) = true from h)⟩
  | _ => exact absurd hg (by simp [ax_grp])
theorem so_l7 {cls b k : Nat} {init : Bool} {i : Instr} {d : Int} (hg : ax_grp i = 3) (h : tb_l cls init (i, 7, b, k, d) = true) : ∃ idx, i = .invokespecial idx ∧ Cond.methodLink (tb_RN cls) idx ⟨tb_RN b, "<init>", "(Ljava/lang/String;)V"⟩ ∈ lw_tbl ∧ 14 ≤ b ∧ b < 17 := by
  cases i with
  | invokevirtual idx => simp [tb_l] at h
  | invokestatic idx => simp [tb_l] at h
  | invokespecial idx =>
    have h2 : (tb_k k (15, cls, idx, 0, b, 0) && decide (14 ≤ b) && decide (b < 17)) = true := h
    simp only [Bool.and_eq_true, decide_eq_true_eq] at h2
    exact ⟨idx, rfl, so_lk h2.1.1, h2.1.2, h2.2⟩
  | _ => exact absurd hg (by simp [ax_grp])
theorem so_nexta {y pc : Nat} (hm : tb_mok y = true) (h : ax_nexta (tb_M y) pc = true) : decode (tb_bytes y) (pc + 3) = .ok (.athrow, 1) := by
  unfold ax_nexta at h
  split at h
  · rename_i q hq
    unfold tb_mok at hm
    rw [Bool.and_eq_true] at hm
    obtain ⟨htd, -⟩ := so_all _ 0 (pc + 3) _ hm.1 hq
    rw [Nat.zero_add] at htd
    obtain ⟨n, h1, h2, -⟩ := so_dec htd
    rw [h2 rfl] at h1
    exact h1
  · cases h
theorem so_throw_nexta {μ : ax_M} {pc x : Nat} {st : List ax_V} {h h' : ax_H} {o : ax_O} (h1 : ax_throw μ pc x st h = some (o, h')) : ax_nexta μ pc = true ∧ h'.1 = h.1 ∧ h'.2.1 = h.2.1 := by
  unfold ax_throw at h1
  split at h1
  · split at h1
    · rename_i hc
      cases h1
      exact ⟨hc.2.2.2.2.1, rfl, rfl⟩
    · cases h1
  · cases h1
section SOb
variable {p : Program} {l : Launch} {e : Env} {R : Room} {s : State} {m : MethodId} {args : Array Value} {below : List Frame} {meth : Method} {c : Code}
variable {y : Nat} {ad : Nat → Option Nat} {H0 : Heap}
theorem so_W_num {H : Heap} {locs : List Loc} {c1 s1 c2 s2 : Nat} {Q : State → Prop} {g : JFrame} (h1 : c1 = c2) (h2 : s1 = s2) (h : W p l e R s m args below meth c H locs c1 s1 Q g) : W p l e R s m args below meth c H locs c2 s2 Q g := by
  subst h1 h2
  exact h
theorem so_run {F n : Nat} (hMw : so_Mws) (hC : ∀ (y : Nat) (av : List ax_V) (h : ax_H) (o : ax_O) (h' : ax_H), y < 302 → y ≠ tb_law → so_okS av → ax_ev F n y av h = some (o, h') → so_Met l ad H0 n y av h o h')
    (X : so_Ctx p e s m args meth c ad H0 y) (hfr : n + 11 ≤ R.frames) (hloc : 60 * n + 260 ≤ R.locals) :
    ∀ (f pc : Nat) (ls : ax_L) (lsA : Array Slot) (st : List ax_V) (h : ax_H) (H : Heap) (locs : List Loc) (cells slots : Nat) (o : ax_O) (h' : ax_H), ax_run (ax_ev F n) (tb_M y) f pc ls st h = some (o, h') →
      so_L ad lsA (tb_M y).2.1 ls → so_okL ls → so_okS st → so_Rel s ad H0 h H → (∀ q ∈ locs, H0.size ≤ q.base) → cells + (h'.1 - h.1) ≤ R.cells → slots + (h'.2.1 - h.2.1) ≤ R.slots →
      W p l e R s m args below meth c H locs cells slots (so_Z below ad H0 s o h' (cells + (h'.1 - h.1)) (slots + (h'.2.1 - h.2.1))) (F0 m pc lsA (st.map (so_v ad))) := by
  obtain ⟨x1, x2, x3, x4, x5, x6, x7, x8, x9, x10, x11, x12, x13⟩ := id X
  have hle := so_run_le (call := ax_ev F n) (μ := tb_M y) (so_ev_le F n)
  intro f
  induction f with
  | zero => intro pc ls lsA st h H locs cells slots o h' h1; cases h1
  | succ f ih =>
    intro pc ls lsA st h H locs cells slots o h' h1 hL okL okS hR hlo hcells hslots
    have hsize : lsA.size = c.maxLocals := by rw [x3]; exact hL.2.1
    rw [ax_run] at h1
    have hmok := x13
    unfold tb_mok at hmok
    rw [Bool.and_eq_true] at hmok
    cases hat : ax_at (tb_M y).2.2.2.2.2 pc with
    | none => simp [ax_step, hat] at h1
    | some ent =>
    obtain ⟨i, a, b, k, d⟩ := ent
    obtain ⟨htd, htl⟩ := so_all _ 0 pc _ hmok.1 hat
    rw [Nat.zero_add] at htd
    obtain ⟨len, hdg, hlen, hfine, hjok⟩ := so_dec htd
    have hstep : ax_step (tb_M y) pc ls st h = ax_do (tb_M y) i a b d pc ls st h := by unfold ax_step; rw [hat]
    rw [hstep] at h1
    unfold ax_do at h1
    cases hg : ax_grp i with
    | zero =>
      rw [hg] at h1
      cases hp : ax_pure i ls st with
      | none => simp [hp] at h1
      | some q =>
        obtain ⟨ls', st'⟩ := q
        simp only [hp] at h1
        have hsw : ax_sw i = false := by cases i <;> first | rfl | cases hg
        rw [hlen hsw] at hdg
        exact so_pure x1 x2 hdg hfine hL okL okS hp (fun lsB g1 g2 g3 => ih _ _ _ _ _ _ _ _ _ _ _ h1 g1 g2 g3 hR hlo hcells hslots)
    | succ g1 =>
    cases g1 with
    | zero =>
      rw [hg] at h1
      cases hp : ax_jump i pc st with
      | none => simp [hp] at h1
      | some q =>
        obtain ⟨pc', st'⟩ := q
        simp only [hp] at h1
        exact so_jump x1 x2 hdg hlen hfine hjok okS hp (fun g3 => ih _ _ _ _ _ _ _ _ _ _ _ h1 hL okL g3 hR hlo hcells hslots)
    | succ g2 =>
    cases g2 with
    | zero =>
      rw [hg] at h1
      cases hp : ax_heap i a b d st h with
      | none => simp [hp] at h1
      | some q =>
        obtain ⟨st', h2⟩ := q
        simp only [hp] at h1
        have l1 := so_heap_le hp
        have l2 := hle _ _ _ _ _ _ _ h1
        obtain ⟨l11, l12⟩ := l1
        obtain ⟨l21, l22⟩ := l2
        refine so_heap X hR hlo okS hat hp (by omega) (by omega) (fun H' locs' r1 r2 r3 => ?_)
        have := ih _ _ lsA _ _ H' locs' (cells + (h2.1 - h.1)) (slots + (h2.2.1 - h.2.1)) _ _ h1 hL okL r3 r1 r2 (by omega) (by omega)
        rw [show cells + (h2.1 - h.1) + (h'.1 - h2.1) = cells + (h'.1 - h.1) by omega, show slots + (h2.2.1 - h.2.1) + (h'.2.1 - h2.2.1) = slots + (h'.2.1 - h.2.1) by omega] at this
        exact this
    | succ g3 =>
    cases g3 with
    | zero =>
      rw [hg] at h1
      simp only at h1
      have hsw : ax_sw i = false := by cases i <;> first | rfl | cases hg
      have hl3 : ax_len i = 3 := by cases i <;> first | rfl | cases hg
      rw [hlen hsw, hl3] at hdg
      unfold ax_inv at h1
      by_cases e5 : a = 5
      · subst e5
        rw [if_pos rfl] at h1
        obtain ⟨idx, rfl, hlink⟩ := so_l5 hg htl
        split at h1
        · cases h1
        · rename_i hs
          split at hs
          · split at hs
            · rename_i hc
              cases hs
              exact so_objW X (by omega) (by omega) hsize hlink hdg hc.2 hc.1 (ih _ _ _ _ _ _ _ _ _ _ _ h1 hL okL okS.tl hR hlo hcells hslots)
            · cases hs
          · cases hs
        · rename_i hs
          split at hs
          · split at hs
            · cases hs
            · cases hs
          · cases hs
        · rename_i hs
          split at hs
          · split at hs
            · cases hs
            · cases hs
          · cases hs
      · rw [if_neg e5] at h1
        by_cases e6 : a = 6
        · subst e6
          rw [if_pos rfl] at h1
          obtain ⟨idx, rfl, hlink⟩ := so_l6 hg htl
          cases hcp : ax_copy st h with
          | none => simp [hcp] at h1
          | some q =>
            obtain ⟨st', h2⟩ := q
            simp only [hcp] at h1
            by_cases hw : ax_wt st' ≤ 20
            · simp only [if_pos hw] at h1
              have l0 : h2.1 = h.1 ∧ h2.2.1 = h.2.1 := by
                unfold ax_copy at hcp
                split at hcp
                · split at hcp
                  · cases hcp; exact ⟨rfl, rfl⟩
                  · cases hcp
                · cases hcp
              refine so_copyW X hR hlo okS (by omega) (by omega) hsize hlink hdg hcp hw (fun H' locs' r1 r2 r3 => ?_)
              have := ih _ _ lsA _ _ H' locs' cells slots _ _ h1 hL okL r3 r1 r2 (by rw [l0.1]; exact hcells) (by rw [l0.2]; exact hslots)
              rw [l0.1, l0.2] at this
              exact this
            · simp [if_neg hw] at h1
        · rw [if_neg e6] at h1
          by_cases e7 : a = 7
          · subst e7
            rw [if_pos rfl] at h1
            obtain ⟨idx, rfl, hlink, hb1, hb2⟩ := so_l7 hg htl
            cases hth : ax_throw (tb_M y) pc b st h with
            | none => simp [hth] at h1
            | some q =>
              obtain ⟨oc, h2⟩ := q
              simp only [hth] at h1
              cases h1
              obtain ⟨n1, n2, n3⟩ := so_throw_nexta hth
              have := so_throwW (R := R) (below := below) (l := l) (cells := cells) (slots := slots) X hR hlo (by omega) (by omega) (by omega) (by omega) hsize hb1 hb2 hlink hdg (so_nexta x13 n1) hth
              rw [n2, n3, Nat.sub_self, Nat.sub_self, Nat.add_zero, Nat.add_zero]
              exact this
          · rw [if_neg e7] at h1
            cases ha : ax_args a b d.toNat st h with
            | none => simp [ha] at h1
            | some q =>
              obtain ⟨as, r⟩ := q
              simp only [ha] at h1
              by_cases hw : ax_wt r ≤ 20
              · simp only [if_pos hw] at h1
                obtain ⟨hb1, hb2, hent⟩ := so_entA (l := l) (R := R) (below := below) (locs := locs) (cells := cells) (slots := slots) (lsA := lsA) X hR hMw hg e5 e6 e7 htl hdg ha
                obtain ⟨okA, okR⟩ := so_args_ok okS ha
                cases hev : ax_ev F n b as h with
                | none => simp [hev] at h1
                | some q =>
                  obtain ⟨oc, h2⟩ := q
                  simp only [hev] at h1
                  obtain ⟨l11, l12⟩ := so_ev_le F n _ _ _ _ _ hev
                  have hM := hC b as h oc h2 hb1 hb2 okA hev
                  cases oc with
                  | inl v =>
                    simp only at h1
                    obtain ⟨l21, l22⟩ := hle _ _ _ _ _ _ _ h1
                    refine so_callW X hR hlo hM (hMw b hb1 hb2) hw hfr hloc (by omega) (by omega) hsize hdg hent (fun w hw2 hfo H' locs' r1 r2 => ?_) (fun x hx => by cases hx)
                    cases hw2
                    have := ih _ _ lsA _ _ H' locs' (cells + (h2.1 - h.1)) (slots + (h2.2.1 - h.2.1)) _ _ h1 hL okL (by
                      cases v with
                      | none => exact okR
                      | some w => exact so_okS.cons (hfo.1 w rfl) okR) r1 r2 (by omega) (by omega)
                    rw [show cells + (h2.1 - h.1) + (h'.1 - h2.1) = cells + (h'.1 - h.1) by omega, show slots + (h2.2.1 - h.2.1) + (h'.2.1 - h2.2.1) = slots + (h'.2.1 - h.2.1) by omega] at this
                    exact this
                  | inr x =>
                    simp only at h1
                    cases hct : ax_catch (tb_M y).2.2.2.2.1 pc (ax_ex h2 x) with
                    | some t =>
                      simp only [hct] at h1
                      obtain ⟨l21, l22⟩ := hle _ _ _ _ _ _ _ h1
                      refine so_callW X hR hlo hM (hMw b hb1 hb2) hw hfr hloc (by omega) (by omega) hsize hdg hent (fun w hw2 => by cases hw2) (fun x2 hx hfo T' locs' S' r1 r2 => ?_)
                      cases hx
                      obtain ⟨z, z1, z2, z3, z4⟩ := hfo.2 x rfl
                      refine so_handler X S' r1 z1 z2 z3 hct ?_
                      have := ih _ _ lsA _ _ T'.heap locs' (cells + (h2.1 - h.1)) (slots + (h2.2.1 - h.2.1)) _ _ h1 hL okL (so_okS.cons trivial (fun v hv => by cases hv)) r1 r2 (by omega) (by omega)
                      rw [show cells + (h2.1 - h.1) + (h'.1 - h2.1) = cells + (h'.1 - h.1) by omega, show slots + (h2.2.1 - h.2.1) + (h'.2.1 - h2.2.1) = slots + (h'.2.1 - h.2.1) by omega] at this
                      exact this
                    | none =>
                      simp only [hct] at h1
                      by_cases htab : (tb_M y).2.2.2.2.1 = []
                      · rw [if_pos htab] at h1
                        cases h1
                        refine so_callW X hR hlo hM (hMw b hb1 hb2) hw hfr hloc (by omega) (by omega) hsize hdg hent (fun w hw2 => by cases hw2) (fun x2 hx hfo T' locs' S' r1 r2 => ?_)
                        cases hx
                        exact so_leave X S' r1 r2 htab hfo
                      · rw [if_neg htab] at h1
                        cases h1
              · simp [if_neg hw] at h1
    | succ g4 =>
      rw [hg] at h1
      cases hp : ax_rtn (tb_M y) i st with
      | none => simp [hp] at h1
      | some v =>
        simp only [hp] at h1
        cases h1
        have hsw : ax_sw i = false := by cases i <;> first | rfl | cases hg
        refine so_W_num rfl rfl ?_
        rw [Nat.sub_self, Nat.sub_self, Nat.add_zero, Nat.add_zero]
        exact so_rets X hR hlo okS hdg (hlen hsw) hp
end SOb
/-! EVERY METHOD KEEPS ITS CONTRACT. -/
theorem so_plainFors : (List.range 302).all (fun y => plainFor (tb_name y)) = true := by decide +kernel
theorem so_ent_sl (ad : Nat → Option Nat) (as : List ax_V) : (lg_sl (as.map (so_v ad))).length = (ax_ent as).length := by
  induction as with
  | nil => rfl
  | cons v r ih =>
    have h1 := so_cat ad v
    rw [List.map_cons]
    unfold lg_sl at ih ⊢
    rw [List.flatMap_cons, List.length_append, ih, h1]
    simp only [ax_ent]
    split <;> simp <;> omega
theorem so_prs_none (ad : Nat → Option Nat) : ∀ (n k : Nat), so_prs ad k (List.replicate n none) = [] := by
  intro n
  induction n with
  | zero => intro k; rfl
  | succ n ih => intro k; exact ih (k + 1)
theorem so_prs_ent (ad : Nat → Option Nat) (n : Nat) : ∀ (as : List ax_V) (k : Nat), so_prs ad k (ax_ent as ++ List.replicate n none) = lv_args k (as.map (so_v ad)) := by
  intro as
  induction as with
  | nil => intro k; exact so_prs_none ad n k
  | cons v r ih =>
    intro k
    simp only [ax_ent, List.map_cons, lv_args, so_cat ad v]
    split
    · show (k, so_v ad v) :: so_prs ad (k + 1 + 1) (ax_ent r ++ _) = _
      rw [ih]
    · show (k, so_v ad v) :: so_prs ad (k + 1) (ax_ent r ++ _) = _
      rw [ih]
theorem so_ent_ok : ∀ (as : List ax_V) (n : Nat), so_okS as → so_okL (ax_ent as ++ List.replicate n none) := by
  intro as n hok i v hi
  have hm : some v ∈ ax_ent as ++ List.replicate n none := List.mem_of_getElem? hi
  rcases List.mem_append.mp hm with h | h
  · clear hi hm
    induction as with
    | nil => cases h
    | cons w r ih =>
      simp only [ax_ent] at h
      split at h
      · rcases List.mem_cons.mp h with h | h
        · cases h; exact hok.hd
        · rcases List.mem_cons.mp h with h | h
          · cases h
          · exact ih hok.tl h
      · rcases List.mem_cons.mp h with h | h
        · cases h; exact hok.hd
        · exact ih hok.tl h
  · have := List.eq_of_mem_replicate h
    cases this
theorem so_entry (m : MethodId) (ad : Nat → Option Nat) (as : List ax_V) {nL : Nat} (h : (ax_ent as).length ≤ nL) :
    ∃ lsA, entryFrame m (as.map (so_v ad)).toArray nL = F0 m 0 lsA (([] : List ax_V).map (so_v ad)) ∧ so_L ad lsA nL (ax_ent as ++ List.replicate (nL - (ax_ent as).length) none) := by
  refine ⟨_, lg_entry_eq m _ nL, ?_, ?_⟩
  · rw [List.length_append, List.length_replicate]; omega
  · rw [so_prs_ent]
    exact lv_entry _ (by rw [so_ent_sl]; exact h)
def so_Toks : Prop := ∀ y, y < 302 → tb_mok y = true
theorem so_mets {l : Launch} {ad : Nat → Option Nat} {H0 : Heap} {F : Nat} (hMw : so_Mws) (hTok : so_Toks) (hAD : so_AD ad H0.size) (htr : ∀ e, l.admits e → e.platform.stackTraces = false) :
    ∀ (n y : Nat) (av : List ax_V) (h : ax_H) (o : ax_O) (h' : ax_H), y < 302 → y ≠ tb_law → so_okS av → ax_ev F n y av h = some (o, h') → so_Met l ad H0 n y av h o h' := by
  intro n
  induction n with
  | zero => intro y av h o h' _ _ _ h1; cases h1
  | succ n ih =>
    intro y av h o h' hy hnl hok h1
    have hmw := hMw y hy hnl
    obtain ⟨m1, m2, ⟨m3, m4, m5, m6⟩, m7, m8, m9, m10⟩ := id hmw
    simp only [ax_ev] at h1
    split at h1
    · cases h1
    · rename_i μ hμ
      have hM : tb_M y = μ := by unfold tb_M; rw [List.getD_eq_getElem?_getD, hμ]; rfl
      subst hM
      split at h1
      · rename_i hlen
        unfold so_Met
        refine MetFree.of_bodySF (code := tb_bytes y) (maxLocals := (tb_M y).2.1) (ret := tb_ret y) (List.all_eq_true.mp so_plainFors y (List.mem_range.mpr hy)) (fun args s m hpre hn => ?_) (fun p e s m args below meth c s₁ B hml hP _ => ?_)
        · obtain ⟨mk, meth, c, q1, q2, q3, q4, q5, q6, q7, -⟩ := so_cw_spec (atoms_spec (ws := [so_cw y]) hpre _ List.mem_cons_self)
          cases hn.symm.trans q1
          exact ⟨meth, c, q2, q3, q4, q5, q6, q7⟩
        · obtain ⟨rfl, hR, hw, hOld⟩ := hP
          obtain ⟨mk, meth2, c2, q1, q2, q3, q4, q5, q6, q7, q8, q9⟩ := so_cw_spec (atoms_spec (ws := [so_cw y]) B.pre _ List.mem_cons_self)
          cases B.named.symm.trans q1
          cases B.method.symm.trans q2
          have S := Stand.of_body B
          cases S.code.symm.trans q3
          have hown : s.vm.findClass (tb_RN (tb_M y).1) = some m.cls := by rw [← m1]; exact findClass_of_methodNamed B.named
          have X : so_Ctx p e s m (av.map (so_v ad)).toArray meth c ad H0 y := ⟨B.exec, q4, q5, hown, q6.trans m2, q7, fun hi => (name_of_methodNamed B.named B.method).1.trans (m4 hi), q8, htr e B.admits, so_words (s := s) (U := s) (State.WarmedH.refl s) hw, hAD, hOld, hTok y hy⟩
          obtain ⟨lsA, e1, e2⟩ := so_entry m ad av hlen
          have hh0 : s₁.heap = s.heap := by rw [B.state]; rfl
          have K := so_run (R := so_room (n + 1) (h'.1 - h.1) (h'.2.1 - h.2.1)) (below := below) (l := l) hMw ih X (Nat.le_refl _) (by show 60 * n + 260 ≤ 60 * (n + 1) + 200; omega) F 0 _ lsA [] h s.heap [] 0 0 o h' h1 e2 (so_ent_ok av _ hok) (fun v hv => by cases hv) hR (fun q hq => by cases hq) (by show 0 + (h'.1 - h.1) ≤ h'.1 - h.1; omega) (by show 0 + (h'.2.1 - h.2.1) ≤ h'.2.1 - h.2.1; omega)
          rw [Nat.zero_add, Nat.zero_add, ← hh0] at K
          obtain ⟨t, a1, a2, a3, a4, ⟨L, a5, a6⟩, a7, a8⟩ := K s₁ rfl S
          refine ⟨t, so_out ad o, ?_, a2, a3, rfl, a7.moved a4.alike, a8, L, ⟨a4, a5⟩, a6⟩
          rw [e1]
          exact a1
      · cases h1
/-! THE METHODS' OWN WORDS, all of them. -/
theorem so_mws : so_Mws := fun y hy hn => match y, hy, hn with
  | 0, _, _ => mw_0
  | 1, _, _ => mw_1
  | 2, _, _ => mw_2
  | 3, _, _ => mw_3
  | 4, _, _ => mw_4
  | 5, _, _ => mw_5
  | 6, _, _ => mw_6
  | 7, _, _ => mw_7
  | 8, _, _ => mw_8
  | 9, _, _ => mw_9
  | 10, _, _ => mw_10
  | 11, _, _ => mw_11
  | 12, _, _ => mw_12
  | 13, _, _ => mw_13
  | 14, _, _ => mw_14
  | 15, _, _ => mw_15
  | 16, _, _ => mw_16
  | 17, _, _ => mw_17
  | 18, _, _ => mw_18
  | 19, _, _ => mw_19
  | 20, _, _ => mw_20
  | 21, _, _ => mw_21
  | 22, _, _ => mw_22
  | 23, _, _ => mw_23
  | 24, _, _ => mw_24
  | 25, _, _ => mw_25
  | 26, _, _ => mw_26
  | 27, _, _ => mw_27
  | 28, _, _ => mw_28
  | 29, _, _ => mw_29
  | 30, _, _ => mw_30
  | 31, _, _ => mw_31
  | 32, _, _ => mw_32
  | 33, _, _ => mw_33
  | 34, _, _ => mw_34
  | 35, _, _ => mw_35
  | 36, _, _ => mw_36
  | 37, _, _ => mw_37
  | 38, _, _ => mw_38
  | 39, _, _ => mw_39
  | 40, _, _ => mw_40
  | 41, _, _ => mw_41
  | 42, _, _ => mw_42
  | 43, _, _ => mw_43
  | 44, _, _ => mw_44
  | 45, _, _ => mw_45
  | 46, _, _ => mw_46
  | 47, _, _ => mw_47
  | 48, _, _ => mw_48
  | 49, _, _ => mw_49
  | 50, _, _ => mw_50
  | 51, _, _ => mw_51
  | 52, _, _ => mw_52
  | 53, _, _ => mw_53
  | 54, _, _ => mw_54
  | 55, _, _ => mw_55
  | 56, _, _ => mw_56
  | 57, _, _ => mw_57
  | 58, _, _ => mw_58
  | 59, _, _ => mw_59
  | 60, _, _ => mw_60
  | 61, _, _ => mw_61
  | 62, _, _ => mw_62
  | 63, _, _ => mw_63
  | 64, _, _ => mw_64
  | 65, _, _ => mw_65
  | 66, _, _ => mw_66
  | 67, _, _ => mw_67
  | 68, _, _ => mw_68
  | 69, _, _ => mw_69
  | 70, _, _ => mw_70
  | 71, _, _ => mw_71
  | 72, _, _ => mw_72
  | 73, _, _ => mw_73
  | 74, _, _ => mw_74
  | 75, _, _ => mw_75
  | 76, _, _ => mw_76
  | 77, _, _ => mw_77
  | 78, _, _ => mw_78
  | 79, _, _ => mw_79
  | 80, _, _ => mw_80
  | 81, _, _ => mw_81
  | 82, _, _ => mw_82
  | 83, _, _ => mw_83
  | 84, _, _ => mw_84
  | 85, _, _ => mw_85
  | 86, _, _ => mw_86
  | 87, _, _ => mw_87
  | 88, _, _ => mw_88
  | 89, _, _ => mw_89
  | 90, _, _ => mw_90
  | 91, _, _ => mw_91
  | 92, _, _ => mw_92
  | 93, _, _ => mw_93
  | 94, _, _ => mw_94
  | 95, _, _ => mw_95
  | 96, _, _ => mw_96
  | 97, _, _ => mw_97
  | 98, _, _ => mw_98
  | 99, _, _ => mw_99
  | 100, _, _ => mw_100
  | 101, _, _ => mw_101
  | 102, _, _ => mw_102
  | 103, _, _ => mw_103
  | 104, _, _ => mw_104
  | 105, _, _ => mw_105
  | 106, _, _ => mw_106
  | 107, _, _ => mw_107
  | 108, _, _ => mw_108
  | 109, _, _ => mw_109
  | 110, _, _ => mw_110
  | 111, _, _ => mw_111
  | 112, _, _ => mw_112
  | 113, _, _ => mw_113
  | 114, _, _ => mw_114
  | 115, _, _ => mw_115
  | 116, _, _ => mw_116
  | 117, _, _ => mw_117
  | 118, _, _ => mw_118
  | 119, _, _ => mw_119
  | 120, _, _ => mw_120
  | 121, _, _ => mw_121
  | 122, _, _ => mw_122
  | 123, _, _ => mw_123
  | 124, _, _ => mw_124
  | 125, _, _ => mw_125
  | 126, _, _ => mw_126
  | 127, _, _ => mw_127
  | 128, _, _ => mw_128
  | 129, _, _ => mw_129
  | 130, _, _ => mw_130
  | 131, _, _ => mw_131
  | 132, _, _ => mw_132
  | 133, _, _ => mw_133
  | 134, _, _ => mw_134
  | 135, _, _ => mw_135
  | 136, _, _ => mw_136
  | 137, _, _ => mw_137
  | 138, _, _ => mw_138
  | 139, _, _ => mw_139
  | 140, _, _ => mw_140
  | 141, _, _ => mw_141
  | 142, _, _ => mw_142
  | 143, _, _ => mw_143
  | 144, _, _ => mw_144
  | 145, _, _ => mw_145
  | 146, _, _ => mw_146
  | 147, _, _ => mw_147
  | 148, _, _ => mw_148
  | 149, _, _ => mw_149
  | 150, _, _ => mw_150
  | 151, _, _ => mw_151
  | 152, _, _ => mw_152
  | 153, _, _ => mw_153
  | 154, _, _ => mw_154
  | 155, _, _ => mw_155
  | 156, _, _ => mw_156
  | 157, _, _ => mw_157
  | 158, _, _ => mw_158
  | 159, _, _ => mw_159
  | 160, _, _ => mw_160
  | 161, _, _ => mw_161
  | 162, _, _ => mw_162
  | 163, _, _ => mw_163
  | 164, _, _ => mw_164
  | 165, _, _ => mw_165
  | 166, _, _ => mw_166
  | 167, _, _ => mw_167
  | 168, _, _ => mw_168
  | 169, _, _ => mw_169
  | 170, _, _ => mw_170
  | 171, _, _ => mw_171
  | 172, _, _ => mw_172
  | 173, _, _ => mw_173
  | 174, _, _ => mw_174
  | 175, _, _ => mw_175
  | 176, _, _ => mw_176
  | 177, _, _ => mw_177
  | 178, _, _ => mw_178
  | 179, _, _ => mw_179
  | 180, _, _ => mw_180
  | 181, _, _ => mw_181
  | 182, _, _ => mw_182
  | 183, _, _ => mw_183
  | 184, _, _ => mw_184
  | 185, _, _ => mw_185
  | 186, _, _ => mw_186
  | 187, _, _ => mw_187
  | 188, _, _ => mw_188
  | 189, _, _ => mw_189
  | 190, _, _ => mw_190
  | 191, _, _ => mw_191
  | 192, _, _ => mw_192
  | 193, _, _ => mw_193
  | 194, _, _ => mw_194
  | 195, _, _ => mw_195
  | 196, _, _ => mw_196
  | 197, _, _ => mw_197
  | 198, _, _ => mw_198
  | 199, _, _ => mw_199
  | 200, _, _ => mw_200
  | 201, _, _ => mw_201
  | 202, _, _ => mw_202
  | 203, _, _ => mw_203
  | 204, _, _ => mw_204
  | 205, _, _ => mw_205
  | 206, _, _ => mw_206
  | 207, _, _ => mw_207
  | 208, _, _ => mw_208
  | 209, _, _ => mw_209
  | 210, _, _ => mw_210
  | 211, _, _ => mw_211
  | 212, _, _ => mw_212
  | 213, _, _ => mw_213
  | 214, _, _ => mw_214
  | 215, _, _ => mw_215
  | 216, _, _ => mw_216
  | 217, _, _ => mw_217
  | 218, _, _ => mw_218
  | 219, _, _ => mw_219
  | 220, _, _ => mw_220
  | 221, _, _ => mw_221
  | 222, _, _ => mw_222
  | 223, _, _ => mw_223
  | 224, _, _ => mw_224
  | 225, _, _ => mw_225
  | 226, _, _ => mw_226
  | 227, _, _ => mw_227
  | 228, _, _ => mw_228
  | 229, _, _ => mw_229
  | 230, _, _ => mw_230
  | 231, _, _ => mw_231
  | 232, _, _ => mw_232
  | 233, _, _ => mw_233
  | 234, _, _ => mw_234
  | 235, _, _ => mw_235
  | 236, _, _ => mw_236
  | 237, _, _ => mw_237
  | 238, _, _ => mw_238
  | 239, _, _ => mw_239
  | 240, _, _ => mw_240
  | 241, _, _ => mw_241
  | 242, _, _ => mw_242
  | 243, _, _ => mw_243
  | 244, _, _ => mw_244
  | 245, _, _ => mw_245
  | 246, _, _ => mw_246
  | 247, _, _ => mw_247
  | 248, _, _ => mw_248
  | 249, _, _ => mw_249
  | 250, _, _ => mw_250
  | 251, _, _ => mw_251
  | 252, _, _ => mw_252
  | 253, _, _ => mw_253
  | 254, _, _ => mw_254
  | 255, _, _ => mw_255
  | 256, _, _ => mw_256
  | 257, _, _ => mw_257
  | 258, _, _ => mw_258
  | 259, _, _ => mw_259
  | 260, _, _ => mw_260
  | 261, _, _ => mw_261
  | 262, _, _ => mw_262
  | 263, _, _ => mw_263
  | 264, _, _ => mw_264
  | 265, _, _ => mw_265
  | 266, _, _ => mw_266
  | 267, _, _ => mw_267
  | 268, _, _ => mw_268
  | 269, _, _ => mw_269
  | 270, _, _ => mw_270
  | 271, _, _ => mw_271
  | 272, _, _ => mw_272
  | 273, _, _ => mw_273
  | 274, _, _ => mw_274
  | 275, _, _ => mw_275
  | 276, _, _ => mw_276
  | 277, _, _ => mw_277
  | 278, _, _ => mw_278
  | 279, _, hn => absurd rfl hn
  | 280, _, _ => mw_280
  | 281, _, _ => mw_281
  | 282, _, _ => mw_282
  | 283, _, _ => mw_283
  | 284, _, _ => mw_284
  | 285, _, _ => mw_285
  | 286, _, _ => mw_286
  | 287, _, _ => mw_287
  | 288, _, _ => mw_288
  | 289, _, _ => mw_289
  | 290, _, _ => mw_290
  | 291, _, _ => mw_291
  | 292, _, _ => mw_292
  | 293, _, _ => mw_293
  | 294, _, _ => mw_294
  | 295, _, _ => mw_295
  | 296, _, _ => mw_296
  | 297, _, _ => mw_297
  | 298, _, _ => mw_298
  | 299, _, _ => mw_299
  | 300, _, _ => mw_300
  | 301, _, _ => mw_301
  | y + 302, hy, _ => absurd hy (by omega)
/-! THE STATE AT THE LAW's START. -/
theorem st_L {args : Array Value} {s : State} {a b : Cond} (h : (Cond.and a b).before args s = true) : a.before args s = true := by rw [Cond.before_and, Bool.and_eq_true] at h; exact h.1
theorem st_R {args : Array Value} {s : State} {a b : Cond} (h : (Cond.and a b).before args s = true) : b.before args s = true := by rw [Cond.before_and, Bool.and_eq_true] at h; exact h.2
def st_lev : List Int := [10, 10, 10, 10, 10, 10, 10, 9, 8, 8, 7, 6, 6, 5, 5, 4, 3, 2, 1, 1, 1, 0]
def st_wrd : List Int := [119, 111, 114, 100, 32, 114, 101, 103, 32, 109, 101, 109, 32, 100, 101, 102, 32, 105, 110, 115, 32, 105, 102, 32, 101, 108, 115, 101, 32, 114, 101, 112, 32, 114, 97, 105, 115, 101, 32, 115, 120, 32, 122, 120, 32, 99, 97, 116, 32]
def st_sgn : List Int := [59, 44, 46, 61, 40, 41, 123, 125, 91, 93, 58, 63, 43, 45, 42, 38, 124, 94, 126, 60]
section STA
variable {args : Array Value} {s : State}
set_option maxRecDepth 20000 in
theorem st_levels (hn : narrow_1.before args s = true) : ∃ t : Nat, (Term.static "MachineText" "LEVELS" "[I").eval args s none [] s = some (.ref t) ∧ va_T .int t 22 (fun j => .int (Int32.ofInt (st_lev.getD j 0))) (fun q => s.heap.size ≤ q) s s.heap :=
  va_Tof (by decide) (st_R (st_L (st_R (st_R (st_L (st_L (st_L (st_L (st_L (st_L hn)))))))))) (va_eqt (st_L (st_R (st_R (st_R (st_L (st_L (st_L (st_L (st_L (st_L hn))))))))))) (fun j hj => match j, hj with
    | 0, _ => va_eqt (st_R (st_R (st_R (st_R (st_L (st_L (st_L (st_L (st_L (st_L hn))))))))))
    | 1, _ => va_eqt (st_L (st_L (st_L (st_R (st_L (st_L (st_L (st_L (st_L hn)))))))))
    | 2, _ => va_eqt (st_L (st_R (st_L (st_L (st_R (st_L (st_L (st_L (st_L (st_L hn))))))))))
    | 3, _ => va_eqt (st_R (st_R (st_L (st_L (st_R (st_L (st_L (st_L (st_L (st_L hn))))))))))
    | 4, _ => va_eqt (st_L (st_R (st_L (st_R (st_L (st_L (st_L (st_L (st_L hn)))))))))
    | 5, _ => va_eqt (st_L (st_R (st_R (st_L (st_R (st_L (st_L (st_L (st_L (st_L hn))))))))))
    | 6, _ => va_eqt (st_R (st_R (st_R (st_L (st_R (st_L (st_L (st_L (st_L (st_L hn))))))))))
    | 7, _ => va_eqt (st_L (st_L (st_R (st_R (st_L (st_L (st_L (st_L (st_L hn)))))))))
    | 8, _ => va_eqt (st_L (st_R (st_L (st_R (st_R (st_L (st_L (st_L (st_L (st_L hn))))))))))
    | 9, _ => va_eqt (st_R (st_R (st_L (st_R (st_R (st_L (st_L (st_L (st_L (st_L hn))))))))))
    | 10, _ => va_eqt (st_L (st_L (st_R (st_R (st_R (st_L (st_L (st_L (st_L (st_L hn))))))))))
    | 11, _ => va_eqt (st_R (st_L (st_R (st_R (st_R (st_L (st_L (st_L (st_L (st_L hn))))))))))
    | 12, _ => va_eqt (st_L (st_R (st_R (st_R (st_R (st_L (st_L (st_L (st_L (st_L hn))))))))))
    | 13, _ => va_eqt (st_R (st_R (st_R (st_R (st_R (st_L (st_L (st_L (st_L (st_L hn))))))))))
    | 14, _ => va_eqt (st_L (st_L (st_L (st_L (st_R (st_L (st_L (st_L (st_L hn)))))))))
    | 15, _ => va_eqt (st_L (st_R (st_L (st_L (st_L (st_R (st_L (st_L (st_L (st_L hn))))))))))
    | 16, _ => va_eqt (st_R (st_R (st_L (st_L (st_L (st_R (st_L (st_L (st_L (st_L hn))))))))))
    | 17, _ => va_eqt (st_L (st_R (st_L (st_L (st_R (st_L (st_L (st_L (st_L hn)))))))))
    | 18, _ => va_eqt (st_L (st_R (st_R (st_L (st_L (st_R (st_L (st_L (st_L (st_L hn))))))))))
    | 19, _ => va_eqt (st_R (st_R (st_R (st_L (st_L (st_R (st_L (st_L (st_L (st_L hn))))))))))
    | 20, _ => va_eqt (st_L (st_L (st_R (st_L (st_R (st_L (st_L (st_L (st_L hn)))))))))
    | 21, _ => va_eqt (st_L (st_R (st_L (st_R (st_L (st_R (st_L (st_L (st_L (st_L hn))))))))))
    | j + 22, hj => absurd hj (by omega)) (fun a ha => by omega)
set_option maxRecDepth 20000 in
theorem st_words (hn : narrow_1.before args s = true) : ∃ r v : Nat, (Term.string "MachineText$Names" (51 : Nat)).eval args s none [] s = some (.ref r) ∧ va_O "java/lang/String" r (fun q => s.heap.size ≤ q) s s.heap ∧ va_OF "java/lang/String" "coder" "B" (.int 0) r (fun q => s.heap.size ≤ q) s s.heap ∧ va_OF "java/lang/String" "value" "[B" (.ref v) r (fun q => s.heap.size ≤ q) s s.heap ∧ va_T .byte v 49 (fun j => .int (Int32.ofInt (st_wrd.getD j 0))) (fun q => s.heap.size ≤ q) s s.heap := by
  have hA : ∀ a : Nat, a < s.heap.size → ¬ s.heap.size ≤ a := fun a ha => by omega
  obtain ⟨a, c, cA, kA, q1, q2, q3, q4, q5, q6, -⟩ := Cond.exactly_spec (args := args) (first := s) (o := none) (s := s) (idx := []) (t := (Term.string "MachineText$Names" (51 : Nat))) (cls := "java/lang/String") (st_L (st_R (st_L (st_R (st_R (st_R (st_L (st_R (st_L (st_L hn))))))))))
  obtain ⟨t, ht, hT⟩ := va_Tof (f := fun j => .int (Int32.ofInt (st_wrd.getD j 0))) (A := fun q => s.heap.size ≤ q) (N := 49) (by decide) (st_L (st_L (st_R (st_R (st_R (st_R (st_L (st_R (st_L (st_L hn)))))))))) (va_eqt (st_R (st_L (st_R (st_R (st_R (st_R (st_L (st_R (st_L (st_L hn))))))))))) (fun j hj => match j, hj with
    | 0, _ => va_eqt (st_L (st_R (st_R (st_R (st_R (st_R (st_L (st_R (st_L (st_L hn))))))))))
    | 1, _ => va_eqt (st_R (st_R (st_R (st_R (st_R (st_R (st_L (st_R (st_L (st_L hn))))))))))
    | 2, _ => va_eqt (st_L (st_L (st_L (st_L (st_L (st_R (st_R (st_L (st_L hn)))))))))
    | 3, _ => va_eqt (st_L (st_R (st_L (st_L (st_L (st_L (st_R (st_R (st_L (st_L hn))))))))))
    | 4, _ => va_eqt (st_R (st_R (st_L (st_L (st_L (st_L (st_R (st_R (st_L (st_L hn))))))))))
    | 5, _ => va_eqt (st_L (st_R (st_L (st_L (st_L (st_R (st_R (st_L (st_L hn)))))))))
    | 6, _ => va_eqt (st_L (st_R (st_R (st_L (st_L (st_L (st_R (st_R (st_L (st_L hn))))))))))
    | 7, _ => va_eqt (st_R (st_R (st_R (st_L (st_L (st_L (st_R (st_R (st_L (st_L hn))))))))))
    | 8, _ => va_eqt (st_L (st_L (st_R (st_L (st_L (st_R (st_R (st_L (st_L hn)))))))))
    | 9, _ => va_eqt (st_L (st_R (st_L (st_R (st_L (st_L (st_R (st_R (st_L (st_L hn))))))))))
    | 10, _ => va_eqt (st_R (st_R (st_L (st_R (st_L (st_L (st_R (st_R (st_L (st_L hn))))))))))
    | 11, _ => va_eqt (st_L (st_L (st_R (st_R (st_L (st_L (st_R (st_R (st_L (st_L hn))))))))))
    | 12, _ => va_eqt (st_R (st_L (st_R (st_R (st_L (st_L (st_R (st_R (st_L (st_L hn))))))))))
    | 13, _ => va_eqt (st_L (st_R (st_R (st_R (st_L (st_L (st_R (st_R (st_L (st_L hn))))))))))
    | 14, _ => va_eqt (st_R (st_R (st_R (st_R (st_L (st_L (st_R (st_R (st_L (st_L hn))))))))))
    | 15, _ => va_eqt (st_L (st_L (st_L (st_R (st_L (st_R (st_R (st_L (st_L hn)))))))))
    | 16, _ => va_eqt (st_L (st_R (st_L (st_L (st_R (st_L (st_R (st_R (st_L (st_L hn))))))))))
    | 17, _ => va_eqt (st_R (st_R (st_L (st_L (st_R (st_L (st_R (st_R (st_L (st_L hn))))))))))
    | 18, _ => va_eqt (st_L (st_L (st_R (st_L (st_R (st_L (st_R (st_R (st_L (st_L hn))))))))))
    | 19, _ => va_eqt (st_R (st_L (st_R (st_L (st_R (st_L (st_R (st_R (st_L (st_L hn))))))))))
    | 20, _ => va_eqt (st_L (st_R (st_R (st_L (st_R (st_L (st_R (st_R (st_L (st_L hn))))))))))
    | 21, _ => va_eqt (st_R (st_R (st_R (st_L (st_R (st_L (st_R (st_R (st_L (st_L hn))))))))))
    | 22, _ => va_eqt (st_L (st_L (st_R (st_R (st_L (st_R (st_R (st_L (st_L hn)))))))))
    | 23, _ => va_eqt (st_L (st_R (st_L (st_R (st_R (st_L (st_R (st_R (st_L (st_L hn))))))))))
    | 24, _ => va_eqt (st_R (st_R (st_L (st_R (st_R (st_L (st_R (st_R (st_L (st_L hn))))))))))
    | 25, _ => va_eqt (st_L (st_L (st_R (st_R (st_R (st_L (st_R (st_R (st_L (st_L hn))))))))))
    | 26, _ => va_eqt (st_R (st_L (st_R (st_R (st_R (st_L (st_R (st_R (st_L (st_L hn))))))))))
    | 27, _ => va_eqt (st_L (st_R (st_R (st_R (st_R (st_L (st_R (st_R (st_L (st_L hn))))))))))
    | 28, _ => va_eqt (st_R (st_R (st_R (st_R (st_R (st_L (st_R (st_R (st_L (st_L hn))))))))))
    | 29, _ => va_eqt (st_L (st_L (st_L (st_L (st_R (st_R (st_R (st_L (st_L hn)))))))))
    | 30, _ => va_eqt (st_L (st_R (st_L (st_L (st_L (st_R (st_R (st_R (st_L (st_L hn))))))))))
    | 31, _ => va_eqt (st_R (st_R (st_L (st_L (st_L (st_R (st_R (st_R (st_L (st_L hn))))))))))
    | 32, _ => va_eqt (st_L (st_R (st_L (st_L (st_R (st_R (st_R (st_L (st_L hn)))))))))
    | 33, _ => va_eqt (st_L (st_R (st_R (st_L (st_L (st_R (st_R (st_R (st_L (st_L hn))))))))))
    | 34, _ => va_eqt (st_R (st_R (st_R (st_L (st_L (st_R (st_R (st_R (st_L (st_L hn))))))))))
    | 35, _ => va_eqt (st_L (st_L (st_R (st_L (st_R (st_R (st_R (st_L (st_L hn)))))))))
    | 36, _ => va_eqt (st_L (st_R (st_L (st_R (st_L (st_R (st_R (st_R (st_L (st_L hn))))))))))
    | 37, _ => va_eqt (st_R (st_R (st_L (st_R (st_L (st_R (st_R (st_R (st_L (st_L hn))))))))))
    | 38, _ => va_eqt (st_L (st_L (st_R (st_R (st_L (st_R (st_R (st_R (st_L (st_L hn))))))))))
    | 39, _ => va_eqt (st_R (st_L (st_R (st_R (st_L (st_R (st_R (st_R (st_L (st_L hn))))))))))
    | 40, _ => va_eqt (st_L (st_R (st_R (st_R (st_L (st_R (st_R (st_R (st_L (st_L hn))))))))))
    | 41, _ => va_eqt (st_R (st_R (st_R (st_R (st_L (st_R (st_R (st_R (st_L (st_L hn))))))))))
    | 42, _ => va_eqt (st_L (st_L (st_L (st_R (st_R (st_R (st_R (st_L (st_L hn)))))))))
    | 43, _ => va_eqt (st_L (st_R (st_L (st_L (st_R (st_R (st_R (st_R (st_L (st_L hn))))))))))
    | 44, _ => va_eqt (st_R (st_R (st_L (st_L (st_R (st_R (st_R (st_R (st_L (st_L hn))))))))))
    | 45, _ => va_eqt (st_L (st_L (st_R (st_L (st_R (st_R (st_R (st_R (st_L (st_L hn))))))))))
    | 46, _ => va_eqt (st_R (st_L (st_R (st_L (st_R (st_R (st_R (st_R (st_L (st_L hn))))))))))
    | 47, _ => va_eqt (st_L (st_R (st_R (st_L (st_R (st_R (st_R (st_R (st_L (st_L hn))))))))))
    | 48, _ => va_eqt (st_R (st_R (st_R (st_L (st_R (st_R (st_R (st_R (st_L (st_L hn))))))))))
    | j + 49, hj => absurd hj (by omega)) hA
  exact ⟨a, t, q1, ⟨cA, q3, q5, by rw [q6]; exact q2, hA a (Array.getElem?_eq_some_iff.mp q3).1⟩, vk_OFof q1 (va_eqt (st_R (st_R (st_L (st_R (st_R (st_R (st_L (st_R (st_L (st_L hn))))))))))) hA, vk_OFof q1 ht hA, hT⟩
set_option maxRecDepth 20000 in
theorem st_signs (hn : narrow_1.before args s = true) : ∃ r v : Nat, (Term.string "MachineText$Lexemes" (135 : Nat)).eval args s none [] s = some (.ref r) ∧ va_O "java/lang/String" r (fun q => s.heap.size ≤ q) s s.heap ∧ va_OF "java/lang/String" "coder" "B" (.int 0) r (fun q => s.heap.size ≤ q) s s.heap ∧ va_OF "java/lang/String" "value" "[B" (.ref v) r (fun q => s.heap.size ≤ q) s s.heap ∧ va_T .byte v 20 (fun j => .int (Int32.ofInt (st_sgn.getD j 0))) (fun q => s.heap.size ≤ q) s s.heap := by
  have hA : ∀ a : Nat, a < s.heap.size → ¬ s.heap.size ≤ a := fun a ha => by omega
  obtain ⟨a, c, cA, kA, q1, q2, q3, q4, q5, q6, -⟩ := Cond.exactly_spec (args := args) (first := s) (o := none) (s := s) (idx := []) (t := (Term.string "MachineText$Lexemes" (135 : Nat))) (cls := "java/lang/String") (st_L (st_L (st_R (st_R (st_R (st_R (st_R (st_R (st_L (st_L hn))))))))))
  obtain ⟨t, ht, hT⟩ := va_Tof (f := fun j => .int (Int32.ofInt (st_sgn.getD j 0))) (A := fun q => s.heap.size ≤ q) (N := 20) (by decide) (st_L (st_R (st_R (st_R (st_R (st_R (st_R (st_R (st_L (st_L hn)))))))))) (va_eqt (st_R (st_R (st_R (st_R (st_R (st_R (st_R (st_R (st_L (st_L hn))))))))))) (fun j hj => match j, hj with
    | 0, _ => va_eqt (st_L (st_L (st_L (st_L (st_L (st_L (st_L (st_R (st_L hn)))))))))
    | 1, _ => va_eqt (st_L (st_R (st_L (st_L (st_L (st_L (st_L (st_L (st_R (st_L hn))))))))))
    | 2, _ => va_eqt (st_R (st_R (st_L (st_L (st_L (st_L (st_L (st_L (st_R (st_L hn))))))))))
    | 3, _ => va_eqt (st_L (st_R (st_L (st_L (st_L (st_L (st_L (st_R (st_L hn)))))))))
    | 4, _ => va_eqt (st_L (st_R (st_R (st_L (st_L (st_L (st_L (st_L (st_R (st_L hn))))))))))
    | 5, _ => va_eqt (st_R (st_R (st_R (st_L (st_L (st_L (st_L (st_L (st_R (st_L hn))))))))))
    | 6, _ => va_eqt (st_L (st_L (st_R (st_L (st_L (st_L (st_L (st_R (st_L hn)))))))))
    | 7, _ => va_eqt (st_L (st_R (st_L (st_R (st_L (st_L (st_L (st_L (st_R (st_L hn))))))))))
    | 8, _ => va_eqt (st_R (st_R (st_L (st_R (st_L (st_L (st_L (st_L (st_R (st_L hn))))))))))
    | 9, _ => va_eqt (st_L (st_L (st_R (st_R (st_L (st_L (st_L (st_L (st_R (st_L hn))))))))))
    | 10, _ => va_eqt (st_R (st_L (st_R (st_R (st_L (st_L (st_L (st_L (st_R (st_L hn))))))))))
    | 11, _ => va_eqt (st_L (st_R (st_R (st_R (st_L (st_L (st_L (st_L (st_R (st_L hn))))))))))
    | 12, _ => va_eqt (st_R (st_R (st_R (st_R (st_L (st_L (st_L (st_L (st_R (st_L hn))))))))))
    | 13, _ => va_eqt (st_L (st_L (st_L (st_R (st_L (st_L (st_L (st_R (st_L hn)))))))))
    | 14, _ => va_eqt (st_L (st_R (st_L (st_L (st_R (st_L (st_L (st_L (st_R (st_L hn))))))))))
    | 15, _ => va_eqt (st_R (st_R (st_L (st_L (st_R (st_L (st_L (st_L (st_R (st_L hn))))))))))
    | 16, _ => va_eqt (st_L (st_R (st_L (st_R (st_L (st_L (st_L (st_R (st_L hn)))))))))
    | 17, _ => va_eqt (st_L (st_R (st_R (st_L (st_R (st_L (st_L (st_L (st_R (st_L hn))))))))))
    | 18, _ => va_eqt (st_R (st_R (st_R (st_L (st_R (st_L (st_L (st_L (st_R (st_L hn))))))))))
    | 19, _ => va_eqt (st_L (st_L (st_R (st_R (st_L (st_L (st_L (st_R (st_L hn)))))))))
    | j + 20, hj => absurd hj (by omega)) hA
  exact ⟨a, t, q1, ⟨cA, q3, q5, by rw [q6]; exact q2, hA a (Array.getElem?_eq_some_iff.mp q3).1⟩, vk_OFof q1 (va_eqt (st_R (st_L (st_R (st_R (st_R (st_R (st_R (st_R (st_L (st_L hn))))))))))) hA, vk_OFof q1 ht hA, hT⟩
theorem st_exact {tm : Term} (h : (Cond.exactly tm "java/lang/String").before args s = true) : ∃ r : Nat, tm.eval args s none [] s = some (.ref r) ∧ r < s.heap.size := by
  obtain ⟨a, c, cA, kA, q1, q2, q3, -⟩ := Cond.exactly_spec (args := args) (first := s) (o := none) (s := s) (idx := []) (t := tm) (cls := "java/lang/String") h
  exact ⟨a, q1, (Array.getElem?_eq_some_iff.mp q3).1⟩
set_option maxRecDepth 20000 in
theorem st_strs (hn : narrow_1.before args s = true) : ∀ b, 2 ≤ b → b < 26 → b ≠ 3 → b ≠ 5 → ∃ r : Nat, (Term.string (tb_RN (tb_st.getD b (0, 0, "")).1) (tb_st.getD b (0, 0, "")).2.1).eval args s none [] s = some (.ref r) ∧ r < s.heap.size := fun b h1 h2 h3 h5 => match b, h1, h2, h3, h5 with
  | 0, h, _, _, _ => absurd h (by decide)
  | 1, h, _, _, _ => absurd h (by decide)
  | 2, _, _, _, _ => st_exact (st_L (st_R (st_L (st_R (st_R (st_R (st_L (st_R (st_L (st_L hn))))))))))
  | 3, _, _, h, _ => absurd rfl h
  | 4, _, _, _, _ => st_exact (st_L (st_L (st_R (st_R (st_R (st_R (st_R (st_R (st_L (st_L hn))))))))))
  | 5, _, _, _, h => absurd rfl h
  | 6, _, _, _, _ => st_exact (st_R (st_R (st_R (st_R (st_R (st_L (st_R (st_L (st_L (st_L hn))))))))))
  | 7, _, _, _, _ => st_exact (st_R (st_R (st_L (st_L (st_L (st_L (st_L (st_R (st_L (st_L hn))))))))))
  | 8, _, _, _, _ => st_exact (st_R (st_R (st_R (st_L (st_R (st_L (st_L (st_R (st_L (st_L hn))))))))))
  | 9, _, _, _, _ => st_exact (st_L (st_R (st_R (st_R (st_R (st_L (st_L (st_L (st_R (st_L hn))))))))))
  | 10, _, _, _, _ => st_exact (st_L (st_R (st_R (st_L (st_L (st_L (st_R (st_L (st_R (st_L hn))))))))))
  | 11, _, _, _, _ => st_exact (st_R (st_R (st_L (st_L (st_L (st_R (st_R (st_L (st_R (st_L hn))))))))))
  | 12, _, _, _, _ => st_exact (st_L (st_R (st_R (st_L (st_L (st_L (st_L (st_R (st_R (st_L hn))))))))))
  | 13, _, _, _, _ => st_exact (st_R (st_R (st_L (st_L (st_L (st_R (st_L (st_R (st_R (st_L hn))))))))))
  | 14, _, _, _, _ => st_exact (st_L (st_L (st_R (st_L (st_L (st_R (st_R (st_R (st_L hn)))))))))
  | 15, _, _, _, _ => st_exact (st_L (st_L (st_L (st_R (st_R (st_R (st_R (st_R (st_L hn)))))))))
  | 16, _, _, _, _ => st_exact (st_L (st_R (st_R (st_L (st_R (st_L (st_L (st_L (st_L (st_R hn))))))))))
  | 17, _, _, _, _ => st_exact (st_L (st_R (st_R (st_R (st_R (st_R (st_L (st_L (st_L (st_R hn))))))))))
  | 18, _, _, _, _ => st_exact (st_R (st_R (st_L (st_R (st_L (st_R (st_R (st_L (st_L (st_R hn))))))))))
  | 19, _, _, _, _ => st_exact (st_R (st_R (st_R (st_L (st_L (st_R (st_L (st_R (st_L (st_R hn))))))))))
  | 20, _, _, _, _ => st_exact (st_R (st_R (st_L (st_R (st_R (st_L (st_R (st_R (st_L (st_R hn))))))))))
  | 21, _, _, _, _ => st_exact (st_R (st_R (st_L (st_L (st_L (st_L (st_L (st_L (st_R (st_R hn))))))))))
  | 22, _, _, _, _ => st_exact (st_R (st_L (st_R (st_L (st_R (st_R (st_L (st_L (st_R (st_R hn))))))))))
  | 23, _, _, _, _ => st_exact (st_L (st_L (st_R (st_R (st_L (st_R (st_R (st_L (st_R (st_R hn))))))))))
  | 24, _, _, _, _ => st_exact (st_L (st_L (st_R (st_R (st_L (st_L (st_R (st_R (st_R hn)))))))))
  | 25, _, _, _, _ => st_exact (st_R (st_L (st_R (st_R (st_L (st_L (st_R (st_R (st_R (st_R hn))))))))))
  | b + 26, _, h, _, _ => absurd h (by omega)
set_option maxRecDepth 20000 in
theorem st_kin (hn : narrow_1.before args s = true) : ∀ x y, 14 ≤ x → x < 17 → 14 ≤ y → y < 17 → x ≠ y → va_Nc (tb_RN x) (tb_RN y) s := by
  intro x y h1 h2 h3 h4 h5
  have e1 : x = 14 ∨ x = 15 ∨ x = 16 := by omega
  have e2 : y = 14 ∨ y = 15 ∨ y = 16 := by omega
  rcases e1 with rfl | rfl | rfl <;> rcases e2 with rfl | rfl | rfl
  · exact absurd rfl h5
  · exact va_Nc.of (st_L (st_L (st_R (st_R (st_L (st_L (st_R (st_L (st_L (st_L hn))))))))))
  · exact va_Nc.of (st_R (st_L (st_R (st_R (st_R (st_L (st_R (st_L (st_L (st_L hn))))))))))
  · exact va_Nc.of (st_L (st_R (st_L (st_R (st_R (st_R (st_L (st_L (st_L (st_L hn))))))))))
  · exact absurd rfl h5
  · exact va_Nc.of (st_L (st_R (st_R (st_R (st_R (st_L (st_R (st_L (st_L (st_L hn))))))))))
  · exact va_Nc.of (st_R (st_R (st_L (st_R (st_R (st_R (st_L (st_L (st_L (st_L hn))))))))))
  · exact va_Nc.of (st_R (st_L (st_R (st_R (st_L (st_L (st_R (st_L (st_L (st_L hn))))))))))
  · exact absurd rfl h5
theorem st_refs (hn : narrow_1.before args s = true) : (Cond.isRef (.static "java/lang/Throwable" "UNASSIGNED_STACK" "[Ljava/lang/StackTraceElement;")).before args s = true ∧ (Cond.isRef (.static "java/lang/Throwable" "SUPPRESSED_SENTINEL" "Ljava/util/List;")).before args s = true ∧ (Cond.isRef (.static "jdk/internal/util/Preconditions" "SIOOBE_FORMATTER" "Ljava/util/function/BiFunction;")).before args s = true ∧ (Term.static "java/lang/String" "COMPACT_STRINGS" "Z").eval args s none [] s = some (.int 1) := ⟨(st_R (st_R (st_L (st_L (st_L (st_L (st_L (st_L (st_L (st_L hn)))))))))), (st_L (st_R (st_L (st_L (st_L (st_L (st_L (st_L (st_L hn))))))))), (st_R (st_R (st_R (st_L (st_L (st_L (st_L (st_L (st_L (st_L hn)))))))))), va_eqt (st_L (st_R (st_R (st_L (st_L (st_L (st_L (st_L (st_L (st_L hn))))))))))⟩
end STA
set_option maxRecDepth 20000 in
theorem st_stat : (Cond.laysStatic "MachineText" "LEVELS" "[I" ∈ lw_tbl ∧ Cond.initialized "MachineText" ∈ lw_tbl) ∧ (Cond.laysStatic "java/lang/String" "COMPACT_STRINGS" "Z" ∈ lw_tbl ∧ Cond.initialized "java/lang/String" ∈ lw_tbl) ∧ (Cond.laysStatic "jdk/internal/util/Preconditions" "SIOOBE_FORMATTER" "Ljava/util/function/BiFunction;" ∈ lw_tbl ∧ Cond.initialized "jdk/internal/util/Preconditions" ∈ lw_tbl) := ⟨⟨tb_i5 (List.mem_of_getElem? (i := 57) rfl), tb_i1 (List.mem_of_getElem? (i := 1) rfl)⟩, ⟨tb_i3 (List.mem_of_getElem? (i := 124) rfl), tb_i1 (List.mem_of_getElem? (i := 21) rfl)⟩, ⟨tb_i3 (List.mem_of_getElem? (i := 140) rfl), tb_i1 (List.mem_of_getElem? (i := 23) rfl)⟩⟩
set_option maxRecDepth 20000 in
theorem st_sref : ∀ b, 2 ≤ b → b < 26 → b ≠ 3 → b ≠ 5 → Cond.stringRef (tb_RN (tb_st.getD b (0, 0, "")).1) (tb_st.getD b (0, 0, "")).2.1 (tb_st.getD b (0, 0, "")).2.2 ∈ lw_tbl := fun b h1 h2 h3 h5 => match b, h1, h2, h3, h5 with
  | 0, h, _, _, _ => absurd h (by decide)
  | 1, h, _, _, _ => absurd h (by decide)
  | 2, _, _, _, _ => tb_i3 (List.mem_of_getElem? (i := 114) rfl)
  | 3, _, _, h, _ => absurd rfl h
  | 4, _, _, _, _ => tb_i4 (List.mem_of_getElem? (i := 15) rfl)
  | 5, _, _, _, h => absurd rfl h
  | 6, _, _, _, _ => tb_i3 (List.mem_of_getElem? (i := 29) rfl)
  | 7, _, _, _, _ => tb_i3 (List.mem_of_getElem? (i := 76) rfl)
  | 8, _, _, _, _ => tb_i3 (List.mem_of_getElem? (i := 83) rfl)
  | 9, _, _, _, _ => tb_i4 (List.mem_of_getElem? (i := 109) rfl)
  | 10, _, _, _, _ => tb_i4 (List.mem_of_getElem? (i := 119) rfl)
  | 11, _, _, _, _ => tb_i4 (List.mem_of_getElem? (i := 152) rfl)
  | 12, _, _, _, _ => tb_i4 (List.mem_of_getElem? (i := 170) rfl)
  | 13, _, _, _, _ => tb_i4 (List.mem_of_getElem? (i := 180) rfl)
  | 14, _, _, _, _ => tb_i4 (List.mem_of_getElem? (i := 197) rfl)
  | 15, _, _, _, _ => tb_i5 (List.mem_of_getElem? (i := 104) rfl)
  | 16, _, _, _, _ => tb_i5 (List.mem_of_getElem? (i := 178) rfl)
  | 17, _, _, _, _ => tb_i6 (List.mem_of_getElem? (i := 153) rfl)
  | 18, _, _, _, _ => tb_i6 (List.mem_of_getElem? (i := 175) rfl)
  | 19, _, _, _, _ => tb_i6 (List.mem_of_getElem? (i := 190) rfl)
  | 20, _, _, _, _ => tb_i6 (List.mem_of_getElem? (i := 209) rfl)
  | 21, _, _, _, _ => tb_i6 (List.mem_of_getElem? (i := 223) rfl)
  | 22, _, _, _, _ => tb_i7 (List.mem_of_getElem? (i := 0) rfl)
  | 23, _, _, _, _ => tb_i7 (List.mem_of_getElem? (i := 13) rfl)
  | 24, _, _, _, _ => tb_i7 (List.mem_of_getElem? (i := 65) rfl)
  | 25, _, _, _, _ => tb_i7 (List.mem_of_getElem? (i := 78) rfl)
  | b + 26, _, h, _, _ => absurd h (by omega)
/-! THE ABSTRACT HEAP AT THE START. -/
def st_kind (L a : Nat) : Nat × Nat := match a with
  | 0 => (0, L)
  | 1 => (0, 22)
  | 2 => (113, 2)
  | 3 => (1, 49)
  | 4 => (113, 2)
  | 5 => (1, 20)
  | _ => (50, 0)
def st_num (L : Nat) (xs : Nat → Int) (a j : Nat) : Int := match a with
  | 0 => if j < L then xs j else 0
  | 1 => st_lev.getD j 0
  | 3 => st_wrd.getD j 0
  | 5 => st_sgn.getD j 0
  | _ => 0
def st_ref (a j : Nat) : Option Nat := match a, j with
  | 2, 0 => some 3
  | 4, 0 => some 5
  | _, _ => none
def st_h0 (L : Nat) (xs : Nat → Int) : ax_H := (0, 0, st_kind L, st_num L xs, st_ref, fun _ => 0)
theorem st_getD {P : Int → Prop} {l : List Int} (h : ∀ z ∈ l, P z) (h0 : P 0) (j : Nat) : P (l.getD j 0) := by
  rw [List.getD_eq_getElem?_getD]
  cases e : l[j]? with
  | none => exact h0
  | some z => exact h z (List.mem_of_getElem? e)
theorem st_lev_ok : ∀ z ∈ st_lev, (Int32.ofInt z).toInt = z := by decide +kernel
theorem st_wrd_ok : ∀ z ∈ st_wrd, -128 ≤ z ∧ z < 128 := by decide +kernel
theorem st_sgn_ok : ∀ z ∈ st_sgn, -128 ≤ z ∧ z < 128 := by decide +kernel
theorem st_numok {L : Nat} {xs : Nat → Int32} : so_num (st_h0 L (fun j => (xs j).toInt)) := by
  intro a j
  have hx : ∀ z : Int32, (Int32.ofInt z.toInt).toInt = z.toInt := fun z => by rw [Int32.ofInt_toInt]
  have h0 : (Int32.ofInt 0).toInt = 0 := rfl
  show (if ax_isl (st_kind L a).1 j = true then (Int64.ofInt (st_num L (fun j => (xs j).toInt) a j)).toInt = st_num L (fun j => (xs j).toInt) a j else (Int32.ofInt (st_num L (fun j => (xs j).toInt) a j)).toInt = st_num L (fun j => (xs j).toInt) a j) ∧ ((st_kind L a).1 = 1 → -128 ≤ st_num L (fun j => (xs j).toInt) a j ∧ st_num L (fun j => (xs j).toInt) a j < 128)
  match a with
  | 0 =>
    refine ⟨?_, fun h => by cases h⟩
    show (Int32.ofInt (if j < L then (xs j).toInt else 0)).toInt = if j < L then (xs j).toInt else 0
    split
    · exact hx _
    · exact h0
  | 1 => exact ⟨st_getD st_lev_ok h0 j, fun h => by cases h⟩
  | 2 =>
    refine ⟨?_, fun h => by cases h⟩
    show (if _ then (Int64.ofInt 0).toInt = 0 else (Int32.ofInt 0).toInt = 0)
    split <;> rfl
  | 3 => exact ⟨so_b32 (st_getD (P := fun z => -128 ≤ z ∧ z < 128) st_wrd_ok (by decide) j), fun _ => st_getD (P := fun z => -128 ≤ z ∧ z < 128) st_wrd_ok (by decide) j⟩
  | 4 =>
    refine ⟨?_, fun h => by cases h⟩
    show (if _ then (Int64.ofInt 0).toInt = 0 else (Int32.ofInt 0).toInt = 0)
    split <;> rfl
  | 5 => exact ⟨so_b32 (st_getD (P := fun z => -128 ≤ z ∧ z < 128) st_sgn_ok (by decide) j), fun _ => st_getD (P := fun z => -128 ≤ z ∧ z < 128) st_sgn_ok (by decide) j⟩
  | a + 6 =>
    refine ⟨?_, fun h => by cases h⟩
    show (if _ then (Int64.ofInt 0).toInt = 0 else (Int32.ofInt 0).toInt = 0)
    split <;> rfl
theorem st_restok {L : Nat} (hL : L ≤ 2560) {xs : Nat → Int} : so_rest (st_h0 L xs) := by
  refine ⟨fun a ha => ?_, fun a => ?_, fun a ha => absurd rfl ha, rfl⟩
  · have ha : 27 + 0 ≤ a := ha
    obtain ⟨k, rfl⟩ : ∃ k, a = k + 6 := ⟨a - 6, by omega⟩
    exact ⟨rfl, rfl, fun j => ⟨rfl, rfl⟩⟩
  · match a with
    | 0 => show L < 2 ^ 31; omega
    | 1 => show 22 < 2 ^ 31; omega
    | 2 => show 2 < 2 ^ 31; omega
    | 3 => show 49 < 2 ^ 31; omega
    | 4 => show 2 < 2 ^ 31; omega
    | 5 => show 20 < 2 ^ 31; omega
    | a + 6 => show 0 < 2 ^ 31; omega
theorem so_cell.nil {s : State} {ad : Nat → Option Nat} {h : ax_H} {H : Heap} {a : Nat} (h1 : ax_kd h a = (50, 0)) (h2 : ax_ex h a = 0) : so_cell s ad h H a := by
  refine ⟨fun ty ht => ?_, fun ci hci => ?_, fun x hx => ?_, fun x hx => ?_⟩
  · rw [h1] at ht; cases ht
  · rw [h1] at hci; have hci : 50 = 100 + ci := hci; omega
  · omega
  · omega
theorem so_ty_lt {t : Nat} {ty : FieldType} (h : so_ty t = some ty) : t < 4 := by
  rcases Nat.lt_or_ge t 4 with q | q
  · exact q
  · match t, q, h with
    | t + 4, _, h => cases h
theorem so_cell.arr {s : State} {ad : Nat → Option Nat} {h : ax_H} {H : Heap} {a t r n : Nat} {ty : FieldType} (ht : so_ty t = some ty) (h1 : ax_kd h a = (t, n)) (h2 : ax_ex h a = 0) (hr : ad a = some r) (ha : so_arr s H r ty n (fun j => so_v ad (ax_el t (ax_nu h a j)))) : so_cell s ad h H a := by
  have ht4 : t < 4 := so_ty_lt ht
  refine ⟨fun ty2 ht2 => ?_, fun ci hci => ?_, fun x hx => ?_, fun x hx => ?_⟩
  · rw [h1] at ht2 ⊢
    have ht2 : so_ty t = some ty2 := ht2
    rw [ht] at ht2
    cases ht2
    exact ⟨r, hr, ha⟩
  · rw [h1] at hci; have hci : t = 100 + ci := hci; omega
  · omega
  · omega
theorem st_str {s : State} {ad : Nat → Option Nat} {h : ax_H} {a r v w n : Nat} (h1 : ax_kd h a = (113, n)) (h2 : ax_ex h a = 0) (hr : ad a = some r) (hw : ax_rf h a 0 = some w) (hv : ad w = some v) (hc : ax_nu h a 1 = 0)
    (o1 : va_O "java/lang/String" r (fun q => s.heap.size ≤ q) s s.heap) (o2 : va_OF "java/lang/String" "coder" "B" (.int 0) r (fun q => s.heap.size ≤ q) s s.heap) (o3 : va_OF "java/lang/String" "value" "[B" (.ref v) r (fun q => s.heap.size ≤ q) s s.heap) (ha : ¬ 27 ≤ a) : so_cell s ad h s.heap a := by
  obtain ⟨cell, p1, p2, p3, -⟩ := o1
  obtain ⟨cf, k, i, f, cell2, q1, q2, q3, q4, q5, -⟩ := o2
  obtain ⟨cf3, k3, i3, f3, cell3, r1, r2, r3, r4, r5, -⟩ := o3
  cases p1.symm.trans q3
  cases p1.symm.trans r3
  refine ⟨fun ty2 ht2 => ?_, fun ci hci => ?_, fun x hx => ?_, fun x hx => ?_⟩
  · rw [h1] at ht2; cases ht2
  · rw [h1] at hci
    have hci : 113 = 100 + ci := hci
    have : ci = 13 := by omega
    subst this
    refine ⟨r, hr, cell, p1, p3, q4, p2, fun q => absurd q ha, fun b hb => ?_⟩
    have hb : b < 2 := hb
    match b, hb with
    | 0, _ =>
      refine ⟨cf3, k3, i3, f3, r1, r2, ?_⟩
      rw [r5]
      show _ = some (so_v ad (.inr (.inr (ax_rf h a 0))))
      rw [hw]
      show _ = some (va_rf (ad w))
      rw [hv]
      rfl
    | 1, _ =>
      refine ⟨cf, k, i, f, q1, q2, ?_⟩
      rw [q5]
      show _ = some (Value.int (Int32.ofInt (ax_nu h a 1)))
      rw [hc]
      rfl
  · omega
  · omega
theorem st_arrT {s : State} {ad : Nat → Option Nat} {ty : FieldType} {t n tg : Nat} {F : Nat → Int} (h : va_T ty t n (fun j => .int (Int32.ofInt (F j))) (fun q => s.heap.size ≤ q) s s.heap) (h2 : tg ≠ 2) : so_arr s s.heap t ty n (fun j => so_v ad (ax_el tg (F j))) := by
  obtain ⟨cell, p1, p2, p3, p4, p5, p6, -⟩ := h
  refine ⟨cell, p1, p2, p3, ⟨p4, p5⟩, fun j hj => ?_⟩
  rw [p6 j hj]
  show some (Value.int (Int32.ofInt (F j))) = some (so_v ad (ax_el tg (F j)))
  unfold ax_el
  rw [if_neg h2]
  rfl
/-! THE WORLD AT THE START. -/
theorem st_lt {ty : FieldType} {t N : Nat} {f : Nat → Value} {A : Nat → Prop} {U : State} {H : Heap} (h : va_T ty t N f A U H) : t < H.size := by
  obtain ⟨cell, h1, -⟩ := h
  exact (Array.getElem?_eq_some_iff.mp h1).1
def st_ad (B b t v w : Nat) (fm : Option Nat) (g : Nat → Nat) (a : Nat) : Option Nat := if a = 0 then some b else if a = 1 then some t else if a = 3 then some v else if a = 5 then some w else if a = 26 then fm else if a < 26 then some (g a) else some (B + (a - 27))
section STW
variable {B b t v w : Nat} {fm : Option Nat} {g : Nat → Nat}
theorem st_ad_g {a : Nat} (h1 : 2 ≤ a) (h2 : a < 26) (h3 : a ≠ 3) (h5 : a ≠ 5) : st_ad B b t v w fm g a = some (g a) := by
  unfold st_ad
  rw [if_neg (by omega), if_neg (by omega), if_neg h3, if_neg h5, if_neg (by omega), if_pos h2]
theorem st_ad_new (k : Nat) : st_ad B b t v w fm g (27 + k) = some (B + k) := by
  unfold st_ad
  rw [if_neg (by omega), if_neg (by omega), if_neg (by omega), if_neg (by omega), if_neg (by omega), if_neg (by omega)]
  congr 1
  omega
theorem st_ad_lt (hb : b < B) (ht : t < B) (hv : v < B) (hw : w < B) (hg : ∀ a, 2 ≤ a → a < 26 → a ≠ 3 → a ≠ 5 → g a < B) {a r : Nat} (ha : a < 26) (h : st_ad B b t v w fm g a = some r) : r < B := by
  unfold st_ad at h
  split at h
  · cases h; exact hb
  · split at h
    · cases h; exact ht
    · split at h
      · cases h; exact hv
      · split at h
        · cases h; exact hw
        · split at h
          · omega
          · cases h
            exact hg a (by omega) ha (by omega) (by omega)
end STW
set_option maxRecDepth 20000 in
set_option maxHeartbeats 4000000 in
theorem st_world {args : Array Value} {s : State} {b L : Nat} {xs : Nat → Int32} (hL : L ≤ 2560) (hX : va_X b L xs s s.heap) (hb : b < s.heap.size) (hn : narrow_1.before args s = true) (hts : ∀ w ∈ lw_tbl, w.before args s = true) :
    ∃ ad : Nat → Option Nat, ad 0 = some b ∧ so_AD ad s.heap.size ∧ so_Old s ad s.heap ∧ so_Rel s ad s.heap (st_h0 L (fun j => (xs j).toInt)) s.heap := by
  obtain ⟨t, t1, t2⟩ := st_levels hn
  obtain ⟨r2, v, w1, w2, w3, w4, w5⟩ := st_words hn
  obtain ⟨r4, w, z1, z2, z3, z4, z5⟩ := st_signs hn
  obtain ⟨f1, f2, f3, f4⟩ := st_refs hn
  obtain ⟨⟨l1, l2⟩, ⟨l3, l4⟩, l5, l6⟩ := st_stat
  obtain ⟨fv, fe, fr⟩ := Cond.isRef_spec (args := args) (first := s) (o := none) (s := s) (idx := []) f3
  have hfm : ∃ fm : Option Nat, fv = va_rf fm := by
    cases fv <;> first
      | exact ⟨some _, rfl⟩
      | exact ⟨none, rfl⟩
      | cases fr
  obtain ⟨fm, rfl⟩ := hfm
  have hex : ∀ q : Nat, ∃ r : Nat, 2 ≤ q → q < 26 → q ≠ 3 → q ≠ 5 → (Term.string (tb_RN (tb_st.getD q (0, 0, "")).1) (tb_st.getD q (0, 0, "")).2.1).eval args s none [] s = some (.ref r) ∧ r < s.heap.size := fun q => by
    by_cases c : 2 ≤ q ∧ q < 26 ∧ q ≠ 3 ∧ q ≠ 5
    · obtain ⟨r, h⟩ := st_strs hn q c.1 c.2.1 c.2.2.1 c.2.2.2
      exact ⟨r, fun _ _ _ _ => h⟩
    · exact ⟨0, fun a1 a2 a3 a4 => absurd ⟨a1, a2, a3, a4⟩ c⟩
  obtain ⟨g, hg⟩ := Classical.axiomOfChoice hex
  have e2 : g 2 = r2 := by
    have h1 : (Term.string "MachineText$Names" (51 : Nat)).eval args s none [] s = some (.ref (g 2)) := (hg 2 (by decide) (by decide) (by decide) (by decide)).1
    rw [w1] at h1
    cases h1
    rfl
  have e4 : g 4 = r4 := by
    have h1 : (Term.string "MachineText$Lexemes" (135 : Nat)).eval args s none [] s = some (.ref (g 4)) := (hg 4 (by decide) (by decide) (by decide) (by decide)).1
    rw [z1] at h1
    cases h1
    rfl
  have hA : ∀ a : Nat, a < s.heap.size → ¬ s.heap.size ≤ a := fun a ha => by omega
  refine ⟨st_ad s.heap.size b t v w fm g, rfl, ⟨fun k => st_ad_new k, fun a r ha h => st_ad_lt (fm := fm) hb (st_lt t2) (st_lt w5) (st_lt z5) (fun a h1 h2 h3 h5 => (hg a h1 h2 h3 h5).2) ha h⟩, ⟨?_, ?_, ?_, ?_, ?_, st_kin hn⟩, rfl, fun _ _ => rfl, fun a ha => ?_, st_numok, st_restok hL⟩
  · exact va_Zof (hts _ l1) (hts _ l2) t1 hA
  · exact va_Zof (hts _ l3) (hts _ l4) f4 hA
  · exact va_Zof (hts _ l5) (hts _ l6) fe hA
  · exact ⟨s, args, State.WarmedH.refl s, rfl, hts, f1, f2⟩
  · intro q h1 h2 h3 h5
    exact ⟨g q, st_ad_g h1 h2 h3 h5, vk_R.of (hts _ (st_sref q h1 h2 h3 h5)) (hg q h1 h2 h3 h5).1⟩
  · match a with
    | 0 =>
      obtain ⟨cell, c1, c2, c3, c4, c5⟩ := hX
      refine so_cell.arr (t := 0) (n := L) (ty := .int) (r := b) rfl rfl rfl rfl ⟨cell, c1, c2, c3, so_len.of c4, fun j hj => ?_⟩
      show _ = some (Value.int (Int32.ofInt (if j < L then (xs j).toInt else 0)))
      rw [if_pos hj, Int32.ofInt_toInt]
      exact c5 j hj
    | 1 => exact so_cell.arr (t := 0) (n := 22) (ty := .int) (r := t) rfl rfl rfl rfl (st_arrT (F := fun j => st_lev.getD j 0) (tg := 0) t2 (by decide))
    | 2 => exact st_str (w := 3) (v := v) (r := r2) (n := 2) rfl rfl (by rw [st_ad_g (by decide) (by decide) (by decide) (by decide), e2]) rfl rfl rfl w2 w3 w4 (by decide)
    | 3 => exact so_cell.arr (t := 1) (n := 49) (ty := .byte) (r := v) rfl rfl rfl rfl (st_arrT (F := fun j => st_wrd.getD j 0) (tg := 1) w5 (by decide))
    | 4 => exact st_str (w := 5) (v := w) (r := r4) (n := 2) rfl rfl (by rw [st_ad_g (by decide) (by decide) (by decide) (by decide), e4]) rfl rfl rfl z2 z3 z4 (by decide)
    | 5 => exact so_cell.arr (t := 1) (n := 20) (ty := .byte) (r := w) rfl rfl rfl rfl (st_arrT (F := fun j => st_sgn.getD j 0) (tg := 1) z5 (by decide))
    | k + 6 => exact so_cell.nil rfl rfl
/-! EVERY METHOD's TABLE IS RIGHT: from 0 on. -/
theorem tb_ok_0 : tb_moks 0 6 = true := tb_lok (by decide +kernel)
theorem tb_ok_6 : tb_moks 6 6 = true := tb_lok (by decide +kernel)
theorem tb_ok_12 : tb_moks 12 6 = true := tb_lok (by decide +kernel)
theorem tb_ok_18 : tb_moks 18 6 = true := tb_lok (by decide +kernel)
theorem tb_ok_24 : tb_moks 24 6 = true := tb_lok (by decide +kernel)
theorem tb_ok_30 : tb_moks 30 6 = true := tb_lok (by decide +kernel)
theorem tb_ok_36 : tb_moks 36 6 = true := tb_lok (by decide +kernel)
theorem tb_ok_42 : tb_moks 42 6 = true := tb_lok (by decide +kernel)
theorem tb_ok_48 : tb_moks 48 6 = true := tb_lok (by decide +kernel)
