/-! A BODY is opened, the reference. -/
def OBm (m : Sg) (b : Nat) (x : Int) (a : Nat) : Sg := ax_u2 (ax_u2 (ax_u2 (adv m (a + 1)) 114 b x) 115 b (m 84 46)) 84 43 ((b + 1 : Nat) : Int)
section OBD
variable {T : TT} {m : Sg} {a b : Nat} {x : Int}
theorem m258y (hT : TWF T) (hM : MC T m) (hf : m 84 6 = 0) (hu : m 84 18 = (a : Int)) (ha : a ≤ T.z) (t : T.tk a = 123) (hb : m 84 43 = (b : Int)) (hb8 : b < 80) (hx : x = 0 ∨ x = 1) : f_258 x m = some (OBm m b x a) := by
  have e43 : (adv m (a + 1)) 84 43 = (b : Int) := by rw [adv_col (by decide)]; exact hb
  have e46 : (adv m (a + 1)) 84 46 = m 84 46 := adv_col (by decide)
  unfold f_258
  rw [if_pos (by omega), if_pos (by omega), takeY hM hT hf hu ha (k := 123) (by decide) t, Option.bind_some]
  dsimp only
  rw [e43, e46, gd_pos ⟨by omega, hx⟩, gd_pos (by omega), Int.toNat_natCast, w32_nat (by omega)]
  rfl
theorem m258n (hT : TWF T) (hM : MC T m) (hf : m 84 6 = 0) (hu : m 84 18 = (a : Int)) (ha : a ≤ T.z) (t : T.tk a ≠ 123) (hb : m 84 43 = (b : Int)) (hb8 : b < 80) (hx : x = 0 ∨ x = 1) : ∃ m' : Sg, f_258 x m = some m' ∧ BSm m m' := by
  have e43 : (tel m 2 a) 84 43 = (b : Int) := by rw [tel_col (by decide) (by decide)]; exact hb
  refine ⟨ax_u2 (ax_u2 (ax_u2 (tel m 2 a) 114 b x) 115 b ((tel m 2 a) 84 46)) 84 43 ((b + 1 : Nat) : Int), ?_, ((tel_sf.trans (ro_sf (by decide))).trans (ro_sf (by decide))).trans (slot_sf (by decide)), ?_⟩
  · unfold f_258
    rw [if_pos (by omega), if_pos (by omega), takeN hM hT hf hu ha (k := 123) (by decide) (by decide) t, Option.bind_some]
    dsimp only
    rw [e43, gd_pos ⟨by omega, hx⟩, gd_pos (by omega), Int.toNat_natCast, w32_nat (by omega)]
  · rw [u2_col _ _ _ (by decide), u2_row _ _ _ (by decide), u2_row _ _ _ (by decide), tel_at]
    decide
theorem m258d (hT : TWF T) (hf : m 84 6 = 0) (hu : m 84 18 = (a : Int)) (ha : a ≤ T.z) (hb : m 84 43 = (b : Int)) (hb8 : 80 ≤ b) : f_258 x m = some (tel m 3 a) := by
  have h8 := hT.1
  have e : f_227 3 (m 89 a) m = tel m 3 a := by unfold f_227; rw [if_pos (by omega)]; rfl
  unfold f_258
  rw [if_pos (by omega), if_neg (by omega), hu, gd_pos (by omega), Int.toNat_natCast, e, Option.bind_some]
end OBD
