/-! EVERY METHOD KEEPS ITS CONTRACT. -/
theorem so_plainFors : (List.range 302).all (fun y => plainFor (tb_name y)) = true := by decide +kernel
theorem so_ent_sl (ad : Nat → Option Nat) (as : List ax_V) : (lg_sl (as.map (so_v ad))).length = (ax_ent as).length := by
  induction as with
  | nil => rfl
  | cons v r ih =>
    have h1 := so_cat ad v
    rw [List.map_cons]
    unfold lg_sl at ih ⊢
    rw [List.flatMap_cons, List.length_append, ih, h1]
    simp only [ax_ent]
    split <;> simp <;> omega
theorem so_prs_none (ad : Nat → Option Nat) : ∀ (n k : Nat), so_prs ad k (List.replicate n none) = [] := by
  intro n
  induction n with
  | zero => intro k; rfl
  | succ n ih => intro k; exact ih (k + 1)
theorem so_prs_ent (ad : Nat → Option Nat) (n : Nat) : ∀ (as : List ax_V) (k : Nat), so_prs ad k (ax_ent as ++ List.replicate n none) = lv_args k (as.map (so_v ad)) := by
  intro as
  induction as with
  | nil => intro k; exact so_prs_none ad n k
  | cons v r ih =>
    intro k
    simp only [ax_ent, List.map_cons, lv_args, so_cat ad v]
    split
    · show (k, so_v ad v) :: so_prs ad (k + 1 + 1) (ax_ent r ++ _) = _
      rw [ih]
    · show (k, so_v ad v) :: so_prs ad (k + 1) (ax_ent r ++ _) = _
      rw [ih]
theorem so_ent_ok : ∀ (as : List ax_V) (n : Nat), so_okS as → so_okL (ax_ent as ++ List.replicate n none) := by
  intro as n hok i v hi
  have hm : some v ∈ ax_ent as ++ List.replicate n none := List.mem_of_getElem? hi
  rcases List.mem_append.mp hm with h | h
  · clear hi hm
    induction as with
    | nil => cases h
    | cons w r ih =>
      simp only [ax_ent] at h
      split at h
      · rcases List.mem_cons.mp h with h | h
        · cases h; exact hok.hd
        · rcases List.mem_cons.mp h with h | h
          · cases h
          · exact ih hok.tl h
      · rcases List.mem_cons.mp h with h | h
        · cases h; exact hok.hd
        · exact ih hok.tl h
  · have := List.eq_of_mem_replicate h
    cases this
theorem so_entry (m : MethodId) (ad : Nat → Option Nat) (as : List ax_V) {nL : Nat} (h : (ax_ent as).length ≤ nL) :
    ∃ lsA, entryFrame m (as.map (so_v ad)).toArray nL = F0 m 0 lsA (([] : List ax_V).map (so_v ad)) ∧ so_L ad lsA nL (ax_ent as ++ List.replicate (nL - (ax_ent as).length) none) := by
  refine ⟨_, lg_entry_eq m _ nL, ?_, ?_⟩
  · rw [List.length_append, List.length_replicate]; omega
  · rw [so_prs_ent]
    exact lv_entry _ (by rw [so_ent_sl]; exact h)
def so_Toks : Prop := ∀ y, y < 302 → tb_mok y = true
theorem so_mets {l : Launch} {ad : Nat → Option Nat} {H0 : Heap} {F : Nat} (hMw : so_Mws) (hTok : so_Toks) (hAD : so_AD ad H0.size) (htr : ∀ e, l.admits e → e.platform.stackTraces = false) :
    ∀ (n y : Nat) (av : List ax_V) (h : ax_H) (o : ax_O) (h' : ax_H), y < 302 → y ≠ tb_law → so_okS av → ax_ev F n y av h = some (o, h') → so_Met l ad H0 n y av h o h' := by
  intro n
  induction n with
  | zero => intro y av h o h' _ _ _ h1; cases h1
  | succ n ih =>
    intro y av h o h' hy hnl hok h1
    have hmw := hMw y hy hnl
    obtain ⟨m1, m2, ⟨m3, m4, m5, m6⟩, m7, m8, m9, m10⟩ := id hmw
    simp only [ax_ev] at h1
    split at h1
    · cases h1
    · rename_i μ hμ
      have hM : tb_M y = μ := by unfold tb_M; rw [List.getD_eq_getElem?_getD, hμ]; rfl
      subst hM
      split at h1
      · rename_i hlen
        unfold so_Met
        refine MetFree.of_bodySF (code := tb_bytes y) (maxLocals := (tb_M y).2.1) (ret := tb_ret y) (List.all_eq_true.mp so_plainFors y (List.mem_range.mpr hy)) (fun args s m hpre hn => ?_) (fun p e s m args below meth c s₁ B hml hP _ => ?_)
        · obtain ⟨mk, meth, c, q1, q2, q3, q4, q5, q6, q7, -⟩ := so_cw_spec (atoms_spec (ws := [so_cw y]) hpre _ List.mem_cons_self)
          cases hn.symm.trans q1
          exact ⟨meth, c, q2, q3, q4, q5, q6, q7⟩
        · obtain ⟨rfl, hR, hw, hOld⟩ := hP
          obtain ⟨mk, meth2, c2, q1, q2, q3, q4, q5, q6, q7, q8, q9⟩ := so_cw_spec (atoms_spec (ws := [so_cw y]) B.pre _ List.mem_cons_self)
          cases B.named.symm.trans q1
          cases B.method.symm.trans q2
          have S := Stand.of_body B
          cases S.code.symm.trans q3
          have hown : s.vm.findClass (tb_RN (tb_M y).1) = some m.cls := by rw [← m1]; exact findClass_of_methodNamed B.named
          have X : so_Ctx p e s m (av.map (so_v ad)).toArray meth c ad H0 y := ⟨B.exec, q4, q5, hown, q6.trans m2, q7, fun hi => (name_of_methodNamed B.named B.method).1.trans (m4 hi), q8, htr e B.admits, so_words (s := s) (U := s) (State.WarmedH.refl s) hw, hAD, hOld, hTok y hy⟩
          obtain ⟨lsA, e1, e2⟩ := so_entry m ad av hlen
          have hh0 : s₁.heap = s.heap := by rw [B.state]; rfl
          have K := so_run (R := so_room (n + 1) (h'.1 - h.1) (h'.2.1 - h.2.1)) (below := below) (l := l) hMw ih X (Nat.le_refl _) (by show 60 * n + 260 ≤ 60 * (n + 1) + 200; omega) F 0 _ lsA [] h s.heap [] 0 0 o h' h1 e2 (so_ent_ok av _ hok) (fun v hv => by cases hv) hR (fun q hq => by cases hq) (by show 0 + (h'.1 - h.1) ≤ h'.1 - h.1; omega) (by show 0 + (h'.2.1 - h.2.1) ≤ h'.2.1 - h.2.1; omega)
          rw [Nat.zero_add, Nat.zero_add, ← hh0] at K
          obtain ⟨t, a1, a2, a3, a4, ⟨L, a5, a6⟩, a7, a8⟩ := K s₁ rfl S
          refine ⟨t, so_out ad o, ?_, a2, a3, rfl, a7.moved a4.alike, a8, L, ⟨a4, a5⟩, a6⟩
          rw [e1]
          exact a1
      · cases h1
