/-! AN ACTION: raise. -/
section RAI
variable {T : TT} {sc0 sm0 sc sm sc' sm' sc1 sm1 m : Sg} {a a1 a' S P A N N' K K' C C' B B' D D' np w : Nat}
theorem AOUT.mono {rc : Option (Sum Sg (Nat × Sg))} {rm : Option Sg} (h : AOUT T sc0 sm0 sc1 sm1 a1 S P np w rc rm) (hc : SFc sc sc1) (hm : SFm sm sm1) (ha : a ≤ a1) : AOUT T sc0 sm0 sc sm a S P np w rc rm := by
  rcases h with ⟨sc', sm', a', A', N', K', C', B', D', h1, h2, h3, h4⟩ | ⟨x, s', mF, h1, h2, h3, h4, h5⟩
  · exact Or.inl ⟨sc', sm', a', A', N', K', C', B', D', h1, h2, by omega, h4⟩
  · exact Or.inr ⟨x, s', mF, h1, h2, ⟨hc.trans h3.1, h3.2⟩, h4, hm.trans h5.1, h5.2⟩
/-- what all actions begin with -/
theorem PS1.sz (hT : TWF T) (hp : POS T) (h : PS1 T sc0 sm0 sc sm a S P A N K C B D np w) : S < 1171 ∧ A < 8200 ∧ a ≤ T.z ∧ T.z ≤ 8192 ∧ C < 2049 ∧ B < 4112 ∧ sc 39 11 = T.tk a ∧ (T.tk a ≠ 125 → f_144 sc = (if (ACc sc S) 39 11 = 1 then f_147 (ACc sc S) else if (ACc sc S) 39 11 = 21 then f_148 (ACc sc S) else if (ACc sc S) 39 11 = 23 then f_149 (ACc sc S) else if (ACc sc S) 39 11 = 24 then gd (g_94 (ACc sc S)) ((some (f_94 (ACc sc S))).bind fun q5 => (xb (f_93 0 255 q5) fun q6 => (xb (f_92 59 q6.2) fun q7 => some (.inl q7)))) else some (.inr (15, ACc sc S)))) ∧ f_259 (S : Int) sm = gd (g_252 35 (ACm sm S A)) ((some (f_252 35 (ACm sm S A))).bind fun q1 => at1 (S : Int) (A : Int) ((D - 1 : Nat) : Int) q1) := by
  obtain ⟨h1, h2, ⟨q1, q2, q3, q4, q5, q6⟩, h4⟩ := h
  obtain ⟨e1, e2, e3, e4, e5, e6, e7, e8, e9, e10, e11, e12, e13, e14, e15, e16, e17, e18, e19, e20, e21, e22, e23, e24, e25, e26, e27, e28, e29, e30, e31⟩ := id h1
  have hz := e3.2.2
  have h8 := hT.1
  have p8 := hp.2.2.2
  have pz := hp.add (k := a) (T.z - a) (by omega)
  rw [show a + (T.z - a) = T.z by omega] at pz
  have hS : S < 1171 := by omega
  have c8 := (c181 (S := S) e10 hS 0).2.2
  have eta : ∀ o : Option (Sum Sg (Nat × Sg)), (xb o fun q => some (.inl q)) = o := fun o => by
    cases o with
    | none => rfl
    | some o => cases o <;> rfl
  refine ⟨hS, by omega, hz, h8, by omega, by omega, e3.2.1, fun t => ?_, ?_⟩
  · unfold f_144
    rw [if_pos (by rw [e3.2.1]; exact t), gd_pos c8.1, c8.2, Option.bind_some, eta, eta, eta]
    rfl
  · exact m259 (by omega) e12 (by omega) h2.2.1 h2.2.2.1 h2.2.2.2.1
theorem act_raise (hT : TWF T) (hp : POS T) (h : PS1 T sc0 sm0 sc sm a S P A N K C B D np w) (t0 : T.tk a = 24) : AOUT T sc0 sm0 sc sm a S P np w (f_144 sc) (f_259 (S : Int) sm) := by
  obtain ⟨hS, hA, hz, h8, hC8, hB8, h39, r144, r259⟩ := h.sz hT hp
  have hb := h.begin
  have htl := h.2.2.2
  obtain ⟨sc1, hsc1⟩ : ∃ s : Sg, s = ACc sc S := ⟨_, rfl⟩
  obtain ⟨m1, hm1⟩ : ∃ s : Sg, s = ACm sm S A := ⟨_, rfl⟩
  have sf1 : SFc sc sc1 := by rw [hsc1]; exact ACc_sf
  have sg1 : SFm sm m1 := by rw [hm1]; exact ACm_sf
  rw [← hsc1, ← hm1] at hb
  rw [← hsc1] at r144
  rw [← hm1] at r259
  rw [r144 (by rw [t0]; decide), r259]
  obtain ⟨e1, e2, e3, e4, e5, -⟩ := id hb.1
  have z0 := hT.lt hz (by rw [t0]; decide)
  rw [if_neg (by rw [e3.2.1, t0]; decide), if_neg (by rw [e3.2.1, t0]; decide), if_neg (by rw [e3.2.1, t0]; decide), if_pos (by rw [e3.2.1, t0]), nxt hT e1 e3 (by rw [t0]; decide)]
  rw [eatN e2 hT e4 hz (k := 21) (by decide) (by decide) (by rw [t0]; decide)]
  have rm : at1 (S : Int) (A : Int) ((D - 1 : Nat) : Int) ((0 : Int), m1) = (f_231 2 (ax_u2 (adv m1 (a + 1)) 106 A 3)).bind fun q11 => gd (0 ≤ (A : Int) ∧ (A : Int) < 8200) ((f_231 7 (ax_u2 q11.2 108 A q11.1)).bind fun q12 => some q12.2) := by
    unfold at1
    rw [if_pos rfl, eatN e2 hT e4 hz (k := 23) (by decide) (by decide) (by rw [t0]; decide)]
    rw [if_pos rfl, eatY e2 hT e5 e4 hz (k := 24) (by decide) t0]
    rw [if_neg (by simp), gd_pos (by omega), Int.toNat_natCast]
  rw [rm]
  have h2 := (hb.tok hp z0 (Or.inr (Or.inr (Or.inr (Or.inr (Or.inr (Or.inl ⟨by rcases htl with x | x | x <;> simp [x], by simp [t0]⟩)))))) (by rw [t0]; decide) (by rw [t0]; decide) (by rw [t0]; decide)).row (c := 106) (v := 3) hp (by decide)
  obtain ⟨sc2, hsc2⟩ : ∃ s : Sg, s = cur T sc1 (a + 1) := ⟨_, rfl⟩
  obtain ⟨m2, hm2⟩ : ∃ s : Sg, s = ax_u2 (adv m1 (a + 1)) 106 A 3 := ⟨_, rfl⟩
  have sf2 : SFc sc sc2 := by rw [hsc2]; exact sf1.trans cur_sf
  have sg2 : SFm sm m2 := by rw [hm2]; exact (sg1.trans adv_sf).trans (ro_sf (by decide))
  rw [← hsc2, ← hm2] at h2
  rw [← hsc2, ← hm2]
  obtain ⟨i1, i2, i3, i4, i5, -⟩ := id h2.1
  by_cases t1 : T.tk (a + 1) = 2
  rotate_left
  · right
    refine ⟨15, sc2, ax_u2 (tel m2 2 (a + 1)) 108 A 0, by rw [c93n i3 t1, xb_err], Or.inr rfl, ⟨sf2, _, i3⟩, ?_, (sg2.trans tel_sf).trans (ro_sf (by decide)), by rw [u2_row _ _ _ (by decide), tel_at]; decide⟩
    rw [takeN i2 hT i5 i4 (by omega) (k := 2) (by decide) (by decide) t1, Option.bind_some, gd_pos (by omega)]
    show ((f_231 7 (ax_u2 (tel m2 2 (a + 1)) 108 A 0)).bind fun q12 => some q12.2) = _
    rw [takeF (by rw [u2_row _ _ _ (by decide), tel_at]; decide), Option.bind_some]
  have z1 := hT.lt (show a + 1 ≤ T.z by omega) (by rw [t1]; decide)
  obtain ⟨s3, k1, k2, k3, k4⟩ := c93 (lo := 0) (hi := 255) hT i1 i3 t1
  rw [k1, xb_inl, takeY i2 hT i5 i4 (by omega) (k := 2) (by decide) t1, Option.bind_some, gd_pos (by omega)]
  show AOUT T sc0 sm0 sc sm a S P np w (xb (f_92 59 (cur T s3 (a + 1 + 1))) fun q7 => some (.inl q7)) ((f_231 7 (ax_u2 (adv m2 (a + 1 + 1)) 108 A ((a + 1 : Nat) : Int))).bind fun q12 => some q12.2)
  have sf3 : SFc sc2 s3 := ⟨fun c x => k3 c (by omega), fun j _ _ => by rw [k3 39 (by decide)], k4, fun j _ => by rw [k3 31 (by decide)], W8.same (k3 31 (by decide))⟩
  have cu3 : CU T (cur T s3 (a + 1 + 1)) (a + 1 + 1) := cur_cu (by omega)
  have cc3 : CC T (cur T s3 (a + 1 + 1)) := (sf3.trans cur_sf).cc i1
  obtain ⟨m3, hm3⟩ : ∃ s : Sg, s = ax_u2 (adv m2 (a + 1 + 1)) 108 A ((a + 1 : Nat) : Int) := ⟨_, rfl⟩
  have sg3 : SFm m2 m3 := by rw [hm3]; exact adv_sf.trans (ro_sf (by decide))
  have f3 : m3 84 6 = 0 := by rw [hm3, u2_row _ _ _ (by decide), adv_col (by decide)]; exact i5
  have u3 : m3 84 18 = ((a + 1 + 1 : Nat) : Int) := by rw [hm3, u2_row _ _ _ (by decide)]; exact adv_at
  rw [← hm3]
  by_cases t2 : T.tk (a + 1 + 1) = 59
  rotate_left
  · right
    refine ⟨15, cur T s3 (a + 1 + 1), tel m3 2 (a + 1 + 1), by rw [c92n cu3 t2, xb_err], Or.inr rfl, ⟨(sf2.trans sf3).trans cur_sf, _, cu3⟩, ?_, (sg2.trans sg3).trans tel_sf, by rw [tel_at]; decide⟩
    rw [takeN (sg3.mc i2) hT f3 u3 (by omega) (k := 59) (by decide) (by decide) t2, Option.bind_some]
  have z2 := hT.lt (show a + 1 + 1 ≤ T.z by omega) (by rw [t2]; decide)
  left
  have v1 := hT.2.2.2.2.1 (a + 1) z1
  have e106 : (adv m3 (a + 1 + 1 + 1)) 106 A = 3 := by rw [adv_row (by decide), hm3, u2_row _ _ _ (by decide), adv_row (by decide), hm2]; exact u2_same _ _ _ _
  have e108 : (adv m3 (a + 1 + 1 + 1)) 108 A = ((a + 1 : Nat) : Int) := by rw [adv_row (by decide), hm3]; exact u2_same _ _ _ _
  obtain ⟨e1, e2, e3, e4, e5, e6, e7, e8, e9, e10, e11, e12, e13, e14, e15, e16, e17, e18, e19, e20, e21, e22, e23, e24, e25, e26, e27, e28, e29, e30, e31⟩ := id h2.1
  have pz := hp.add (k := a + 1) 2 (by omega)
  rw [show a + 1 + 2 = a + 1 + 1 + 1 by omega] at pz
  refine ⟨cur T (cur T s3 (a + 1 + 1)) (a + 1 + 1 + 1), adv m3 (a + 1 + 1 + 1), a + 1 + 1 + 1, A + 1, N, K, C, B, D, by rw [c92y hT cc3 cu3 t2 (by decide), xb_inl], by rw [takeY (sg3.mc i2) hT f3 u3 (by omega) (k := 59) (by decide) t2, Option.bind_some], by omega, ?_⟩
  refine h2.fin hp (fun c x => by rw [cur_row (by omega), cur_row (by omega), k3 c (by omega)]) (fun j x y => by rw [cur_col x y, cur_col x y, k3 39 (by decide)]) (fun j x => by rw [cur_row (by decide), cur_row (by decide)]; exact k4 j x) (by rw [cur_row (by decide), cur_row (by decide), k3 61 (by decide)]; exact e13) (fun c j x y _ => by rw [cur_row (by omega), cur_row (by omega), k3 c (by omega)]) (cur_cu (by omega)) (fun c x => by rw [adv_row (by omega), hm3, u2_row _ _ _ (by omega), adv_row (by omega)]) (fun c i x y z => ?_) (fun j x => by rw [adv_col x, hm3, u2_row _ _ _ (by decide), adv_col x]) adv_at (Nat.le_refl _) (fun c x y => absurd y (by omega)) (fun _ y => absurd y (by rw [e106]; decide)) (by rw [e106]; decide) ?_ ?_ (by omega) (by omega) (fun k x y => ?_) (by omega) (by rw [show a + 1 + 1 + 1 - 1 = a + 1 + 1 by omega]; exact t2)
  · rw [adv_row (by omega), hm3]
    have : i ≠ A := by omega
    rw [show (ax_u2 (adv m2 (a + 1 + 1)) 108 A ((a + 1 : Nat) : Int)) c i = (adv m2 (a + 1 + 1)) c i by simp [ax_u2, this], adv_row (by omega)]
  · exact Or.inr (Or.inr (Or.inr ⟨e106, a + 1, e108, z1, t1⟩))
  · have c1 : CN (cur T (cur T s3 (a + 1 + 1)) (a + 1 + 1 + 1)) ↔ CN s3 := by unfold CN; rw [cur_row (by decide), cur_row (by decide)]
    rw [c1, k2]
    unfold GAC
    rw [e106, e108, Int.toNat_natCast]
    exact ⟨fun y => ⟨y.1, fun z => absurd z (by decide), fun _ => y.2.2, fun z => absurd z (by decide)⟩, fun y => ⟨y.1, v1.1, y.2.2.1 rfl⟩⟩
  · by_cases c1 : k = a + 1
    · subst c1
      rw [show a + 1 - 1 = a by omega, t0, t1]
      exact ⟨Or.inr (Or.inr (Or.inl (by decide))), by decide, by decide, by decide⟩
    · rw [show k = a + 1 + 1 by omega, show a + 1 + 1 - 1 = a + 1 by omega, t1, t2]
      exact ⟨Or.inr (Or.inl ⟨by decide, Or.inl rfl⟩), by decide, by decide, by decide⟩
end RAI
