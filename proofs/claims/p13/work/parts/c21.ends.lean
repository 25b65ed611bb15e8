/-! HOW AN INVOCATION ENDS; the abstract heap only grows. -/
def so_adr (ad : Nat → Option Nat) (x : Nat) : Nat := (ad x).getD 0
def so_out (ad : Nat → Option Nat) (o : ax_O) : Outcome := match o with
  | .inl v => .returned (v.map (so_v ad))
  | .inr x => .threw (so_adr ad x)
/-- the exception of an outcome -/
def so_xo (o : ax_O) (h : ax_H) : Prop := ∀ x, o = .inr x → ∃ z, 14 ≤ z ∧ z < 17 ∧ ax_ex h x = 2 * z + 2 ∧ 27 ≤ x
/-- what is known of an outcome -/
def so_fo (o : ax_O) (h : ax_H) : Prop := (∀ v, o = .inl (some v) → so_ok v) ∧ so_xo o h
/-- the end of a walk of an invocation from s -/
def so_Z (below : List Frame) (ad : Nat → Option Nat) (H0 : Heap) (s : State) (o : ax_O) (h' : ax_H) (C S : Nat) : State → Prop := fun t =>
  t.status = .running ∧ Ended t below (so_out ad o) ∧ s.WarmedH t.vm ∧ (∃ L, s.sameButNew ({ t with vm := s.vm } : State) L C S ∧ ∀ q ∈ L, H0.size ≤ q.base) ∧ so_Rel s ad H0 h' t.heap ∧ so_fo o h'
def so_le (h h' : ax_H) : Prop := h.1 ≤ h'.1 ∧ h.2.1 ≤ h'.2.1
theorem so_le.rf (h : ax_H) : so_le h h := ⟨Nat.le_refl _, Nat.le_refl _⟩
theorem so_le.tr {a b c : ax_H} (h : so_le a b) (g : so_le b c) : so_le a c := ⟨Nat.le_trans h.1 g.1, Nat.le_trans h.2 g.2⟩
theorem so_pf_le {ft o j : Nat} {v : ax_V} {h h' : ax_H} (hv : ax_pf ft h o j v = some h') : so_le h h' := by
  unfold ax_pf at hv
  split at hv
  · split at hv
    · cases hv; exact so_le.rf h
    · cases hv
  · split at hv
    · cases hv; exact so_le.rf h
    · cases hv
  · split at hv
    · cases hv; exact so_le.rf h
    · cases hv
  · split at hv
    · split at hv
      · cases hv; exact so_le.rf h
      · cases hv
    · cases hv
  · cases hv
theorem so_ald_le {t : Nat → Bool} {st st' : List ax_V} {h h' : ax_H} (h1 : ax_ald t st h = some (st', h')) : so_le h h' := by
  unfold ax_ald at h1
  split at h1
  · split at h1
    · cases h1; exact so_le.rf h
    · cases h1
  · cases h1
theorem so_ast_le {t : Nat → Bool} {v : ax_V} {z : Int} {st st' : List ax_V} {h h' : ax_H} (h1 : ax_ast t v st z h = some (st', h')) : so_le h h' := by
  unfold ax_ast at h1
  split at h1
  · split at h1
    · split at h1
      · cases h1; exact so_le.rf h
      · cases h1
    · cases h1
  · cases h1
theorem so_heap_le {i : Instr} {a b : Nat} {d : Int} {st st' : List ax_V} {h h' : ax_H} (h1 : ax_heap i a b d st h = some (st', h')) : so_le h h' := by
  cases i with
  | getfield idx =>
    simp only [ax_heap] at h1
    split at h1
    · split at h1
      · split at h1
        · cases h1; exact so_le.rf h
        · cases h1
      · cases h1
    · cases h1
  | putfield idx =>
    simp only [ax_heap] at h1
    split at h1
    · split at h1
      · split at h1
        · rename_i hv
          cases h1; exact so_pf_le hv
        · cases h1
      · cases h1
    · cases h1
  | getstatic idx => simp only [ax_heap] at h1; cases h1; exact so_le.rf h
  | ldc idx => simp only [ax_heap] at h1; cases h1; exact so_le.rf h
  | ldc_w idx => simp only [ax_heap] at h1; cases h1; exact so_le.rf h
  | ldc2_w idx => simp only [ax_heap] at h1; cases h1; exact so_le.rf h
  | arraylength =>
    simp only [ax_heap] at h1
    split at h1
    · split at h1
      · cases h1; exact so_le.rf h
      · cases h1
    · cases h1
  | iaload =>
    simp only [ax_heap] at h1
    exact so_ald_le h1
  | baload =>
    simp only [ax_heap] at h1
    exact so_ald_le h1
  | laload =>
    simp only [ax_heap] at h1
    exact so_ald_le h1
  | iastore =>
    simp only [ax_heap] at h1
    split at h1
    · exact so_ast_le h1
    · cases h1
  | bastore =>
    simp only [ax_heap] at h1
    split at h1
    · exact so_ast_le h1
    · cases h1
  | lastore =>
    simp only [ax_heap] at h1
    split at h1
    · exact so_ast_le h1
    · cases h1
  | new idx =>
    simp only [ax_heap] at h1
    split at h1
    · cases h1; exact ⟨Nat.le_add_right _ _, Nat.le_add_right _ _⟩
    · cases h1; exact ⟨Nat.le_add_right _ _, Nat.le_add_right _ _⟩
  | newarray t =>
    simp only [ax_heap] at h1
    split at h1
    · split at h1
      · cases h1; exact ⟨Nat.le_add_right _ _, Nat.le_add_right _ _⟩
      · cases h1
    · cases h1
  | _ => exact absurd h1 (by simp [ax_heap])
theorem so_copy_le {st st' : List ax_V} {h h' : ax_H} (h1 : ax_copy st h = some (st', h')) : so_le h h' := by
  unfold ax_copy at h1
  split at h1
  · split at h1
    · cases h1; exact so_le.rf h
    · cases h1
  · cases h1
theorem so_throw_le {μ : ax_M} {pc x : Nat} {st : List ax_V} {h h' : ax_H} {o : ax_O} (h1 : ax_throw μ pc x st h = some (o, h')) : so_le h h' := by
  unfold ax_throw at h1
  split at h1
  · split at h1
    · cases h1; exact so_le.rf h
    · cases h1
  · cases h1
theorem so_inv_le {μ : ax_M} {a b : Nat} {d : Int} {pc : Nat} {ls : ax_L} {st : List ax_V} {h : ax_H} {x : ax_S} (h1 : ax_inv μ a b d pc ls st h = some x) : (∀ q, x = .inl q → so_le h q.2.2.2) ∧ ∀ r, x = .inr (.inl r) → so_le h r.2 := by
  unfold ax_inv at h1
  by_cases e5 : a = 5
  · rw [if_pos e5] at h1
    split at h1
    · split at h1
      · cases h1
        exact ⟨fun q e => by cases e; exact so_le.rf h, fun r e => by cases e⟩
      · cases h1
    · cases h1
  · rw [if_neg e5] at h1
    by_cases e6 : a = 6
    · rw [if_pos e6] at h1
      split at h1
      · rename_i hh
        split at h1
        · cases h1
          exact ⟨fun q e => by cases e; exact so_copy_le hh, fun r e => by cases e⟩
        · cases h1
      · cases h1
    · rw [if_neg e6] at h1
      by_cases e7 : a = 7
      · rw [if_pos e7] at h1
        split at h1
        · rename_i r hh
          obtain ⟨o, h2⟩ := r
          cases h1
          exact ⟨(fun q e => by cases e), fun r e => by cases e; exact so_throw_le hh⟩
        · cases h1
      · rw [if_neg e7] at h1
        split at h1
        · cases h1
        · split at h1
          · cases h1
            exact ⟨(fun q e => by cases e), fun r e => by cases e⟩
          · cases h1
theorem so_step_le {μ : ax_M} {pc : Nat} {ls : ax_L} {st : List ax_V} {h : ax_H} {x : ax_S} (h1 : ax_step μ pc ls st h = some x) : (∀ q, x = .inl q → so_le h q.2.2.2) ∧ ∀ r, x = .inr (.inl r) → so_le h r.2 := by
  unfold ax_step at h1
  split at h1
  · cases h1
  · rename_i i a b k d hat
    unfold ax_do at h1
    split at h1
    · split at h1
      · cases h1
        exact ⟨fun q e => by cases e; exact so_le.rf h, fun r e => by cases e⟩
      · cases h1
    · split at h1
      · cases h1
        exact ⟨fun q e => by cases e; exact so_le.rf h, fun r e => by cases e⟩
      · cases h1
    · split at h1
      · rename_i hh
        cases h1
        exact ⟨fun q e => by cases e; exact so_heap_le hh, fun r e => by cases e⟩
      · cases h1
    · exact so_inv_le h1
    · split at h1
      · cases h1
        exact ⟨(fun q e => by cases e), fun r e => by cases e; exact so_le.rf h⟩
      · cases h1
theorem so_run_le {call : Nat → List ax_V → ax_H → Option (ax_O × ax_H)} (hc : ∀ y as h o h', call y as h = some (o, h') → so_le h h') {μ : ax_M} : ∀ (f pc : Nat) (ls : ax_L) (st : List ax_V) (h : ax_H) (o : ax_O) (h' : ax_H), ax_run call μ f pc ls st h = some (o, h') → so_le h h' := by
  intro f
  induction f with
  | zero => intro pc ls st h o h' h1; cases h1
  | succ f ih =>
    intro pc ls st h o h' h1
    rw [ax_run] at h1
    split at h1
    · cases h1
    · rename_i hs
      exact ((so_step_le hs).1 _ rfl).tr (ih _ _ _ _ _ _ h1)
    · rename_i r hs
      cases h1
      exact (so_step_le hs).2 _ rfl
    · rename_i y as r hs
      split at h1
      · cases h1
      · rename_i v h2 hh
        exact (hc _ _ _ _ _ hh).tr (ih _ _ _ _ _ _ h1)
      · rename_i x h2 hh
        split at h1
        · exact (hc _ _ _ _ _ hh).tr (ih _ _ _ _ _ _ h1)
        · split at h1
          · cases h1
            exact hc _ _ _ _ _ hh
          · cases h1
theorem so_ev_le (F : Nat) : ∀ (n y : Nat) (as : List ax_V) (h : ax_H) (o : ax_O) (h' : ax_H), ax_ev F n y as h = some (o, h') → so_le h h' := by
  intro n
  induction n with
  | zero => intro y as h o h' h1; cases h1
  | succ n ih =>
    intro y as h o h' h1
    simp only [ax_ev] at h1
    split at h1
    · cases h1
    · split at h1
      · exact so_run_le ih _ _ _ _ _ _ _ h1
      · cases h1
section SOR
variable {p : Program} {l : Launch} {e : Env} {R : Room} {s : State} {m : MethodId} {args : Array Value} {below : List Frame} {meth : Method} {c : Code} {H : Heap} {locs : List Loc} {cells slots : Nat}
variable {pc y : Nat} {lsA : Array Slot} {ad : Nat → Option Nat} {h h' : ax_H} {H0 : Heap}
theorem so_ret {i : Instr} {v : Option ax_V} (hR : so_Rel s ad H0 h H) (hlo : ∀ q ∈ locs, H0.size ≤ q.base) (hlocks : meth.locks = false) (hv : meth.sig.returnType = none → v = none) (hok : ∀ w, v = some w → so_ok w)
    (step : ∀ (T : State) (fs : List Frame), Stand p l e R s m args below meth c T locs cells slots → (∀ (f : JFrame) (acts : List Action), f.method = m → f.locked = none → f.entered = [] → (doReturn e (T.setTop f) acts (v.map (so_v ad))).1 = T.setFrames fs) → Steps p.tables e below (T.setTop (F0 m pc lsA (v.toList.map (so_v ad)))) (T.setFrames fs)) :
    W p l e R s m args below meth c H locs cells slots (so_Z below ad H0 s (.inl v) h cells slots) (F0 m pc lsA (v.toList.map (so_v ad))) := by
  intro T hT X
  obtain ⟨fs, hret, hrun, hended, hW, hframe⟩ := X.leave (v := v.map (so_v ad)) (hlocks := hlocks) (fun q => by rw [hv q]; rfl)
  exact ⟨T.setFrames fs, step T fs X hret, hrun, hended, hW, ⟨locs, hframe, hlo⟩, by show so_Rel s ad H0 h T.heap; rw [hT]; exact hR, fun w hw => hok w (Sum.inl.inj hw), fun x hx => by cases hx⟩
end SOR
