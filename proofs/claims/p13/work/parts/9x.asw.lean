/-! AN ACTION: an assignment, whole. -/
section ASW
variable {T : TT} {sc0 sm0 sc sm sc' sm' m : Sg} {a a1 a' S P A N N' K K' C C' B B' D D' np w : Nat}
theorem act_asg (hT : TWF T) (hp : POS T) (h : PS1 T sc0 sm0 sc sm a S P A N K C B D np w) (t0 : T.tk a = 1) : AOUT T sc0 sm0 sc sm a S P np w (f_144 sc) (f_259 (S : Int) sm) := by
  obtain ⟨hS, hA, hz, h8, hC8, hB8, h39, r144, r259⟩ := h.sz hT hp
  have hb := h.begin
  have htl := h.2.2.2
  have hAa : A ≤ a := h.1.2.2.2.2.2.2.2.2.2.2.2.2.2.2.2.2.2.2.2.2.2.2.2.1
  have hCa : 4 * (C : Int) ≤ T.fm a := h.1.2.2.2.2.2.2.2.2.2.2.2.2.2.2.2.2.2.2.2.2.1
  obtain ⟨sc1, hsc1⟩ : ∃ s : Sg, s = ACc sc S := ⟨_, rfl⟩
  obtain ⟨m1, hm1⟩ : ∃ s : Sg, s = ACm sm S A := ⟨_, rfl⟩
  have sf1 : SFc sc sc1 := by rw [hsc1]; exact ACc_sf
  have sg1 : SFm sm m1 := by rw [hm1]; exact ACm_sf
  have v109 : m1 109 A = -1 := by rw [hm1]; exact ACm_A.2.2.2.1
  rw [← hsc1, ← hm1] at hb
  rw [← hsc1] at r144
  rw [← hm1] at r259
  rw [r144 (by rw [t0]; decide), r259]
  obtain ⟨e1, e2, e3, e4, e5, -⟩ := id hb.1
  have z0 := hT.lt hz (by rw [t0]; decide)
  rw [if_pos (by rw [e3.2.1, t0])]
  rw [eatN e2 hT e4 hz (k := 21) (by decide) (by decide) (by rw [t0]; decide)]
  have h1 := hb.row (c := 106) (v := 0) hp (by decide)
  obtain ⟨m2, hm2⟩ : ∃ s : Sg, s = ax_u2 m1 106 A 0 := ⟨_, rfl⟩
  have sg2 : SFm m1 m2 := by rw [hm2]; exact ro_sf (by decide)
  rw [← hm2] at h1
  obtain ⟨i1, i2, i3, i4, i5, -⟩ := id h1.1
  have rm : at1 (S : Int) (A : Int) ((D - 1 : Nat) : Int) ((0 : Int), m1) = gd (g_252 15 (ax_u2 (adv m2 (a + 1)) 107 A (a : Int))) ((some (f_252 15 (ax_u2 (adv m2 (a + 1)) 107 A (a : Int)))).bind fun q5 => (if q5.1 = 0 then j_259_257 (S : Int) (A : Int) ((D - 1 : Nat) : Int) q5.2 else ((f_257 (S : Int) ((D - 1 : Nat) : Int) q5.2).bind fun q9 => (gd (0 ≤ (A : Int) ∧ (A : Int) < 8200) ((f_231 16 (ax_u2 q9.2 109 A q9.1)).bind fun q10 => j_259_257 (S : Int) (A : Int) ((D - 1 : Nat) : Int) q10.2))))) := by
    unfold at1
    rw [if_pos rfl, eatN e2 hT e4 hz (k := 23) (by decide) (by decide) (by rw [t0]; decide)]
    rw [if_pos rfl, eatN e2 hT e4 hz (k := 24) (by decide) (by decide) (by rw [t0]; decide)]
    rw [if_pos rfl, gd_pos (by omega), Int.toNat_natCast]
    show ((f_231 1 (ax_u2 m1 106 A 0)).bind _) = _
    rw [← hm2, takeY i2 hT i5 i4 hz (k := 1) (by decide) t0, Option.bind_some, gd_pos (by omega)]
  rw [rm]
  have h2 := (h1.tok hp z0 (Or.inr (Or.inr (Or.inr (Or.inr (Or.inr (Or.inl ⟨by rcases htl with x | x | x <;> simp [x], by simp [t0]⟩)))))) (by rw [t0]; decide) (by rw [t0]; decide) (by rw [t0]; decide)).row (c := 107) (v := (a : Int)) hp (by decide)
  obtain ⟨sc2, hsc2⟩ : ∃ s : Sg, s = cur T sc1 (a + 1) := ⟨_, rfl⟩
  obtain ⟨m3, hm3⟩ : ∃ s : Sg, s = ax_u2 (adv m2 (a + 1)) 107 A (a : Int) := ⟨_, rfl⟩
  have sf2 : SFc sc1 sc2 := by rw [hsc2]; exact cur_sf
  have sg3 : SFm m2 m3 := by rw [hm3]; exact adv_sf.trans (ro_sf (by decide))
  have g106 : m3 106 A = 0 := by rw [hm3, u2_row _ _ _ (by decide), adv_row (by decide), hm2]; exact u2_same _ _ _ _
  have g107 : m3 107 A = (a : Int) := by rw [hm3]; exact u2_same _ _ _ _
  have g109 : m3 109 A = -1 := by rw [hm3, u2_row _ _ _ (by decide), adv_row (by decide), hm2, u2_row _ _ _ (by decide)]; exact v109
  rw [← hsc2, ← hm3] at h2
  rw [← hm3]
  have rc : f_147 sc1 = (if ¬ (sc2 39 11) = 91 then j_147_67 (a : Int) (T.vl a) (-1) sc2 else (gd (g_94 sc2) ((some (f_94 sc2)).bind fun q7 => (xb (f_45 100 (ax_w32 ((q7 70 9) - 1)) q7) fun q8 => (xb (f_92 93 q8) fun q9 => j_147_67 (a : Int) (T.vl a) (q8 66 8) q9))))) := by
    unfold f_147
    rw [c96y hT e1 e3 t0, xb_inl, e3.1, hsc2]
  rw [rc]
  obtain ⟨j1, j2, j3, j4, j5, -⟩ := id h2.1
  by_cases t1 : T.tk (a + 1) = 91
  rotate_left
  · rw [if_pos (by rw [j3.2.1]; exact t1), eatN j2 hT j4 (by omega) (k := 91) (by decide) (by decide) t1]
    show AOUT T sc0 sm0 sc sm a S P np w (j_147_67 (a : Int) (T.vl a) (-1) sc2) (j_259_257 (S : Int) (A : Int) ((D - 1 : Nat) : Int) m3)
    exact (asg_tail hT hp h2 (a0 := a) (by omega) t0 g106 g107 g109 (Or.inl rfl) hCa hAa (Or.inl (by rw [show a + 1 - 1 = a by omega]; exact t0))).mono (sf1.trans sf2) ((sg1.trans sg2).trans sg3) (by omega)
  have z1 := hT.lt (show a + 1 ≤ T.z by omega) (by rw [t1]; decide)
  rw [if_neg (by rw [j3.2.1, t1]; decide), nxt hT j1 j3 (by rw [t1]; decide), eatY j2 hT j5 j4 (by omega) (k := 91) (by decide) t1]
  rw [if_neg (by simp)]
  have h3 := h2.tok hp z1 (Or.inl (by rw [show a + 1 - 1 = a by omega, t0, t1]; exact Or.inr (Or.inr (Or.inl ⟨rfl, Or.inl rfl⟩)))) (by rw [t1]; decide) (by rw [t1]; decide) (by rw [t1]; decide)
  obtain ⟨sc3, hsc3⟩ : ∃ s : Sg, s = cur T sc2 (a + 1 + 1) := ⟨_, rfl⟩
  obtain ⟨m4, hm4⟩ : ∃ s : Sg, s = adv m3 (a + 1 + 1) := ⟨_, rfl⟩
  have sf3 : SFc sc sc3 := by rw [hsc3]; exact (sf1.trans sf2).trans cur_sf
  have sg4 : SFm sm m4 := by rw [hm4]; exact ((sg1.trans sg2).trans sg3).trans adv_sf
  rw [← hsc3, ← hm4] at h3
  rw [← hsc3, ← hm4, h3.dw]
  rcases h3.expr hT hp (by rw [show a + 1 + 1 - 1 = a + 1 by omega, t1]; decide) with ⟨sc', sm', a', N', K', x1, x2, x3, x4⟩ | ⟨sc', mF, a', x1, x2, -, -, -, x3, x4, x5, x6⟩ | ⟨x, sc', mF, x1, x2, x3, x4, x5⟩
  rotate_left
  · right
    have f1 : 0 < (ax_u2 mF 109 A 0) 84 6 := by rw [u2_row _ _ _ (by decide)]; exact x6.2
    obtain ⟨mG, y1, y2⟩ := fat1 (S := S) (A := A) (d := ((D - 1 : Nat) : Int)) hA f1
    refine ⟨15, sc', mG, ?_, Or.inr rfl, ⟨sf3.trans x2, _, x3⟩, ?_, ((sg4.trans x6.1).trans (ro_sf (by decide))).trans y2.1, y2.2⟩
    · rw [x1, xb_inl, c92n x3 (by rcases x4 with y | y | y <;> rw [y] <;> decide), xb_err]
    · rw [x5, Option.bind_some, gd_pos (by omega)]
      show ((f_231 16 (ax_u2 mF 109 A 0)).bind fun q10 => j_259_257 (S : Int) (A : Int) ((D - 1 : Nat) : Int) q10.2) = _
      rw [takeF f1, Option.bind_some]
      exact y1
  · right
    have f1 : 0 < (ax_u2 mF 109 A 0) 84 6 := by rw [u2_row _ _ _ (by decide)]; exact x5.2
    obtain ⟨mG, y1, y2⟩ := fat1 (S := S) (A := A) (d := ((D - 1 : Nat) : Int)) hA f1
    refine ⟨x, sc', mG, by rw [x1, xb_err], x2, ⟨sf3.trans x3.1, x3.2⟩, ?_, ((sg4.trans x5.1).trans (ro_sf (by decide))).trans y2.1, y2.2⟩
    rw [x4, Option.bind_some, gd_pos (by omega)]
    show ((f_231 16 (ax_u2 mF 109 A 0)).bind fun q10 => j_259_257 (S : Int) (A : Int) ((D - 1 : Nat) : Int) q10.2) = _
    rw [takeF f1, Option.bind_some]
    exact y1
  obtain ⟨p1, p2, p3, p4, p5, p6, p7, p8, p9, p10, p11, p12, p13, p14, p15, p16, p17, p18, p19, p20, p21⟩ := id x3
  have hz' := p3.2.2
  have h4 := x4.row (c := 109) (v := (N' : Int) - 1) hp (by decide)
  obtain ⟨m5, hm5⟩ : ∃ s : Sg, s = ax_u2 sm' 109 A ((N' : Int) - 1) := ⟨_, rfl⟩
  have sg5 : SFm sm m5 := by rw [hm5]; exact (sg4.trans p11.sf).trans (ro_sf (by decide))
  have k106 : m5 106 A = 0 := by rw [hm5, u2_row _ _ _ (by decide), p11.1 106 (by decide), hm4, adv_row (by decide)]; exact g106
  have k107 : m5 107 A = (a : Int) := by rw [hm5, u2_row _ _ _ (by decide), p11.1 107 (by decide), hm4, adv_row (by decide)]; exact g107
  have k109 : m5 109 A = (N' : Int) - 1 := by rw [hm5]; exact u2_same _ _ _ _
  rw [← hm5] at h4
  rw [x1, xb_inl, x2, Option.bind_some, gd_pos (by omega)]
  show AOUT T sc0 sm0 sc sm a S P np w (xb (f_92 93 sc') fun q9 => j_147_67 (a : Int) (T.vl a) (sc' 66 8) q9) ((f_231 16 (ax_u2 sm' 109 A ((N' : Int) - 1))).bind fun q10 => j_259_257 (S : Int) (A : Int) ((D - 1 : Nat) : Int) q10.2)
  rw [← hm5, p15]
  obtain ⟨l1, l2, l3, l4, l5, -⟩ := id h4.1
  by_cases t2 : T.tk a' = 93
  rotate_left
  · right
    have f1 : 0 < (tel m5 2 a') 84 6 := by rw [tel_at]; decide
    obtain ⟨mG, y1, y2⟩ := fat1 (S := S) (A := A) (d := ((D - 1 : Nat) : Int)) hA f1
    refine ⟨15, sc', mG, by rw [c92n p3 t2, xb_err], Or.inr rfl, ⟨sf3.trans p10.sf, _, p3⟩, ?_, (sg5.trans tel_sf).trans y2.1, y2.2⟩
    rw [takeN l2 hT l5 l4 hz' (k := 93) (by decide) (by decide) t2, Option.bind_some]
    exact y1
  have z2 := hT.lt hz' (by rw [t2]; decide)
  have h5 := h4.tok hp z2 (Or.inl (Or.inr (Or.inl ⟨p21, by rw [t2]; decide⟩))) (by rw [t2]; decide) (by rw [t2]; decide) (by rw [t2]; decide)
  rw [c92y hT p1 p3 t2 (by decide), xb_inl, takeY l2 hT l5 l4 hz' (k := 93) (by decide) t2, Option.bind_some]
  exact (asg_tail hT hp h5 (a0 := a) (by omega) t0 (by rw [adv_row (by decide)]; exact k106) (by rw [adv_row (by decide)]; exact k107) (by rw [adv_row (by decide)]; exact k109) (Or.inr ⟨N' - 1, by omega, by omega⟩) hCa hAa (Or.inr (by rw [show a' + 1 - 1 = a' by omega]; exact t2))).mono ((sf3.trans p10.sf).trans cur_sf) (sg5.trans adv_sf) (by omega)
end ASW
