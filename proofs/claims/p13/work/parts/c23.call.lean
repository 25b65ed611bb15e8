/-! THE CONTRACT OF A METHOD; a call that returns or throws. -/
def so_P (ad : Nat → Option Nat) (H0 : Heap) (h : ax_H) (av : List ax_V) : Array Value → State → Prop := fun a U => a = (av.map (so_v ad)).toArray ∧ so_Rel U ad H0 h U.heap ∧ (∀ w ∈ lw_tbl, so_gw w = true → w.before #[] U = true) ∧ so_Old U ad H0
def so_Q (ad : Nat → Option Nat) (H0 : Heap) (h : ax_H) (o : ax_O) (h' : ax_H) : Array Value → State → Outcome → State → Prop := fun _ st oc t => oc = so_out ad o ∧ so_Rel t ad H0 h' t.heap ∧ so_fo o h' ∧ ∃ L, so_End st t L (h'.1 - h.1) (h'.2.1 - h.2.1) ∧ ∀ q ∈ L, H0.size ≤ q.base
def so_room (n c s : Nat) : Room := { frames := n + 10, cells := c, slots := s, locals := 60 * n + 200 }
def so_Met (l : Launch) (ad : Nat → Option Nat) (H0 : Heap) (n y : Nat) (av : List ax_V) (h : ax_H) (o : ax_O) (h' : ax_H) : Prop := MetFree l (tb_name y) (headSpec [so_cw y] (so_room n (h'.1 - h.1) (h'.2.1 - h.2.1))) (so_P ad H0 h av) (fun _ _ _ _ _ => True) (so_Q ad H0 h o h')
section SOU
variable {p : Program} {l : Launch} {e : Env} {R : Room} {s : State} {m : MethodId} {args : Array Value} {below : List Frame} {meth : Method} {c : Code} {H : Heap} {locs : List Loc} {cells slots : Nat} {Q : State → Prop}
variable {pc y : Nat} {lsA : Array Slot} {ad : Nat → Option Nat} {h h2 : ax_H} {H0 : Heap}
theorem so_callW {b n : Nat} {av r : List ax_V} {o : ax_O} {stk : List Value} {ig : Instr} (X : so_Ctx p e s m args meth c ad H0 y) (hR : so_Rel s ad H0 h H) (hlo : ∀ q ∈ locs, H0.size ≤ q.base) (hM : so_Met l ad H0 n b av h o h2) (hmw : mw_ok b) (hwt : ax_wt r ≤ 20)
    (hfr : n + 11 ≤ R.frames) (hloc : 60 * n + 260 ≤ R.locals) (hcells : cells + (h2.1 - h.1) ≤ R.cells) (hslots : slots + (h2.2.1 - h.2.1) ≤ R.slots) (hsize : lsA.size = c.maxLocals) (hdg : decode (tb_bytes y) pc = .ok (ig, 3))
    (hent : ∀ T : State, T.heap = H → Stand p l e R s m args below meth c T locs cells slots → so_Ent p l e R s m args below meth c T locs cells slots (F0 m pc lsA stk) b (av.map (so_v ad)).toArray (r.map (so_v ad)))
    (kret : ∀ v, o = .inl v → so_fo o h2 → ∀ (H' : Heap) (locs' : List Loc), so_Rel s ad H0 h2 H' → (∀ q ∈ locs', H0.size ≤ q.base) → W p l e R s m args below meth c H' locs' (cells + (h2.1 - h.1)) (slots + (h2.2.1 - h.2.1)) Q (F0 m (pc + 3) lsA ((v.toList ++ r).map (so_v ad))))
    (kthr : ∀ x, o = .inr x → so_fo o h2 → ∀ (T' : State) (locs' : List Loc), Stand p l e R s m args below meth c T' locs' (cells + (h2.1 - h.1)) (slots + (h2.2.1 - h.2.1)) → so_Rel s ad H0 h2 T'.heap → (∀ q ∈ locs', H0.size ≤ q.base) → ∃ t, Steps p.tables e below ((T'.setTop (F0 m pc lsA (r.map (so_v ad)))).pushFrame (.throwing (so_adr ad x))) t ∧ Q t) :
    W p l e R s m args below meth c H locs cells slots Q (F0 m pc lsA stk) := by
  intro T hT S
  obtain ⟨x1, x2, x3, x4, x5, x6, x7, x8, x9, x10, x11, x12, x13⟩ := id X
  obtain ⟨vm₁, mk, S₁, hnamed, hstep⟩ := hent T hT S
  have hw₁ : ∀ w ∈ lw_tbl, so_gw w = true → w.before (av.map (so_v ad)).toArray (T.setVm vm₁) = true := so_words S₁.warmed x10
  have hcw := hw₁ _ (so_cw_in hmw) (so_cw_good b)
  obtain ⟨mk2, methM, cM, hn2, hmM, hcM, -, hlM, -, -, -, -⟩ := so_cw_spec hcw
  obtain ⟨kY, hkY, -⟩ := className_of_methodNamed hn2
  have hini := hw₁ _ hmw.2.2.2.2.2.2 rfl
  rw [← hmw.1] at hini
  have hinitY : kY.init = .initialized := Cond.initialized_spec (findClass_of_methodNamed hn2) hkY hini
  have hm20 := hmw.2.2.1.2.2.1
  obtain ⟨oc, t, T', L, hq, hE, hPL, S', e1, e2, hor⟩ := so_call S₁ (WW := 20) (maxL := (tb_M b).2.1) hM (g := F0 m pc lsA (r.map (so_v ad))) (ig := ig) (len := 3) rfl hsize (by rw [x2]; exact hdg)
    (by show 2 * 0 + _ ≤ 20; rw [so_wt]; omega) (mk := mk) (S₁.named hnamed) (a := (av.map (so_v ad)).toArray) ⟨mk2, methM, cM, kY, hn2, hmM, hcM, hlM, hkY, hinitY⟩
    (by show n + 10 + 1 ≤ R.frames; omega) (by show 20 + (_ + 11) + (60 * n + 200) ≤ R.locals; omega) hcells hslots (atoms_intro (ws := [so_cw b]) (fun w hw => by rw [List.mem_singleton.mp hw]; exact hcw))
    ⟨rfl, by show so_Rel _ ad H0 h T.heap; rw [hT]; exact hR.moved S₁.warmed.alike, so_words (U := (T.setVm vm₁).calling _ mk _) S₁.warmed x10, x12.warm (U := (T.setVm vm₁).calling _ mk _) S₁.warmed⟩
    (k := h2.1 - h.1) (n := h2.2.1 - h.2.1) (PL := fun L => ∀ q ∈ L, H0.size ≤ q.base) (fun o t hq => hq.2.2.2)
  obtain ⟨hoc, hRt, hfo, -⟩ := hq
  have hRs : so_Rel s ad H0 h2 T'.heap := by
    rw [e1]
    refine hRt.moved ?_
    rw [← e2]
    exact S'.warmed.alike.symm
  have hlo' : ∀ q ∈ locs ++ L, H0.size ≤ q.base := fun q hq => (List.mem_append.mp hq).elim (hlo q) (hPL q)
  rcases hor with ⟨v, ho, hst⟩ | ⟨x, ho, hst⟩
  · cases o with
    | inr z => rw [ho] at hoc; cases hoc
    | inl w =>
      rw [ho] at hoc
      have hv : v = w.map (so_v ad) := Outcome.returned.inj hoc
      obtain ⟨t2, a1, b1⟩ := kret w rfl hfo T'.heap (locs ++ L) hRs hlo' T' rfl S'
      refine ⟨t2, hstep _ (fun acts => ?_), b1⟩
      rw [doInvoke_state]
      refine hst.trans ?_
      rw [hv]
      have e3 : (w.map (so_v ad)).toList ++ r.map (so_v ad) = (w.toList ++ r).map (so_v ad) := by cases w <;> simp
      show Steps p.tables e below (T'.setTop { F0 m pc lsA (r.map (so_v ad)) with pc := pc + 3, stack := (w.map (so_v ad)).toList ++ r.map (so_v ad) }) t2
      rw [e3]
      exact a1
  · cases o with
    | inl w => rw [ho] at hoc; cases hoc
    | inr z =>
      rw [ho] at hoc
      have hv : x = so_adr ad z := Outcome.threw.inj hoc
      obtain ⟨t2, a1, b1⟩ := kthr z rfl hfo T' (locs ++ L) S' hRs hlo'
      refine ⟨t2, hstep _ (fun acts => ?_), b1⟩
      rw [doInvoke_state]
      rw [hv] at hst
      exact hst.trans a1
end SOU
