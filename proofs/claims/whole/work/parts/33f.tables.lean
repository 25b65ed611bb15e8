/-! EVERY METHOD's TABLE IS RIGHT: from 270 on. -/
theorem tb_ok_270 : tb_moks 270 6 = true := by decide +kernel
theorem tb_ok_276 : tb_moks 276 6 = true := by decide +kernel
theorem tb_ok_282 : tb_moks 282 6 = true := by decide +kernel
theorem tb_ok_288 : tb_moks 288 6 = true := by decide +kernel
theorem tb_ok_294 : tb_moks 294 6 = true := by decide +kernel
theorem tb_ok_300 : tb_moks 300 2 = true := by decide +kernel
theorem so_tok_of {lo n y : Nat} (h : tb_moks lo n = true) (h1 : lo ≤ y) (h2 : y < lo + n) : tb_mok y = true := List.all_eq_true.mp h y (List.mem_range'_1.mpr ⟨h1, h2⟩)
theorem so_tok : so_Toks := by
  intro y hy
  rcases Nat.lt_or_ge y 6 with h | h
  · exact so_tok_of tb_ok_0 (by omega) (by omega)
  rcases Nat.lt_or_ge y 12 with h | h
  · exact so_tok_of tb_ok_6 (by omega) (by omega)
  rcases Nat.lt_or_ge y 18 with h | h
  · exact so_tok_of tb_ok_12 (by omega) (by omega)
  rcases Nat.lt_or_ge y 24 with h | h
  · exact so_tok_of tb_ok_18 (by omega) (by omega)
  rcases Nat.lt_or_ge y 30 with h | h
  · exact so_tok_of tb_ok_24 (by omega) (by omega)
  rcases Nat.lt_or_ge y 36 with h | h
  · exact so_tok_of tb_ok_30 (by omega) (by omega)
  rcases Nat.lt_or_ge y 42 with h | h
  · exact so_tok_of tb_ok_36 (by omega) (by omega)
  rcases Nat.lt_or_ge y 48 with h | h
  · exact so_tok_of tb_ok_42 (by omega) (by omega)
  rcases Nat.lt_or_ge y 54 with h | h
  · exact so_tok_of tb_ok_48 (by omega) (by omega)
  rcases Nat.lt_or_ge y 60 with h | h
  · exact so_tok_of tb_ok_54 (by omega) (by omega)
  rcases Nat.lt_or_ge y 66 with h | h
  · exact so_tok_of tb_ok_60 (by omega) (by omega)
  rcases Nat.lt_or_ge y 72 with h | h
  · exact so_tok_of tb_ok_66 (by omega) (by omega)
  rcases Nat.lt_or_ge y 78 with h | h
  · exact so_tok_of tb_ok_72 (by omega) (by omega)
  rcases Nat.lt_or_ge y 84 with h | h
  · exact so_tok_of tb_ok_78 (by omega) (by omega)
  rcases Nat.lt_or_ge y 90 with h | h
  · exact so_tok_of tb_ok_84 (by omega) (by omega)
  rcases Nat.lt_or_ge y 96 with h | h
  · exact so_tok_of tb_ok_90 (by omega) (by omega)
  rcases Nat.lt_or_ge y 102 with h | h
  · exact so_tok_of tb_ok_96 (by omega) (by omega)
  rcases Nat.lt_or_ge y 108 with h | h
  · exact so_tok_of tb_ok_102 (by omega) (by omega)
  rcases Nat.lt_or_ge y 114 with h | h
  · exact so_tok_of tb_ok_108 (by omega) (by omega)
  rcases Nat.lt_or_ge y 120 with h | h
  · exact so_tok_of tb_ok_114 (by omega) (by omega)
  rcases Nat.lt_or_ge y 126 with h | h
  · exact so_tok_of tb_ok_120 (by omega) (by omega)
  rcases Nat.lt_or_ge y 132 with h | h
  · exact so_tok_of tb_ok_126 (by omega) (by omega)
  rcases Nat.lt_or_ge y 138 with h | h
  · exact so_tok_of tb_ok_132 (by omega) (by omega)
  rcases Nat.lt_or_ge y 144 with h | h
  · exact so_tok_of tb_ok_138 (by omega) (by omega)
  rcases Nat.lt_or_ge y 150 with h | h
  · exact so_tok_of tb_ok_144 (by omega) (by omega)
  rcases Nat.lt_or_ge y 156 with h | h
  · exact so_tok_of tb_ok_150 (by omega) (by omega)
  rcases Nat.lt_or_ge y 162 with h | h
  · exact so_tok_of tb_ok_156 (by omega) (by omega)
  rcases Nat.lt_or_ge y 168 with h | h
  · exact so_tok_of tb_ok_162 (by omega) (by omega)
  rcases Nat.lt_or_ge y 174 with h | h
  · exact so_tok_of tb_ok_168 (by omega) (by omega)
  rcases Nat.lt_or_ge y 180 with h | h
  · exact so_tok_of tb_ok_174 (by omega) (by omega)
  rcases Nat.lt_or_ge y 186 with h | h
  · exact so_tok_of tb_ok_180 (by omega) (by omega)
  rcases Nat.lt_or_ge y 192 with h | h
  · exact so_tok_of tb_ok_186 (by omega) (by omega)
  rcases Nat.lt_or_ge y 198 with h | h
  · exact so_tok_of tb_ok_192 (by omega) (by omega)
  rcases Nat.lt_or_ge y 204 with h | h
  · exact so_tok_of tb_ok_198 (by omega) (by omega)
  rcases Nat.lt_or_ge y 210 with h | h
  · exact so_tok_of tb_ok_204 (by omega) (by omega)
  rcases Nat.lt_or_ge y 216 with h | h
  · exact so_tok_of tb_ok_210 (by omega) (by omega)
  rcases Nat.lt_or_ge y 222 with h | h
  · exact so_tok_of tb_ok_216 (by omega) (by omega)
  rcases Nat.lt_or_ge y 228 with h | h
  · exact so_tok_of tb_ok_222 (by omega) (by omega)
  rcases Nat.lt_or_ge y 234 with h | h
  · exact so_tok_of tb_ok_228 (by omega) (by omega)
  rcases Nat.lt_or_ge y 240 with h | h
  · exact so_tok_of tb_ok_234 (by omega) (by omega)
  rcases Nat.lt_or_ge y 246 with h | h
  · exact so_tok_of tb_ok_240 (by omega) (by omega)
  rcases Nat.lt_or_ge y 252 with h | h
  · exact so_tok_of tb_ok_246 (by omega) (by omega)
  rcases Nat.lt_or_ge y 258 with h | h
  · exact so_tok_of tb_ok_252 (by omega) (by omega)
  rcases Nat.lt_or_ge y 264 with h | h
  · exact so_tok_of tb_ok_258 (by omega) (by omega)
  rcases Nat.lt_or_ge y 270 with h | h
  · exact so_tok_of tb_ok_264 (by omega) (by omega)
  rcases Nat.lt_or_ge y 276 with h | h
  · exact so_tok_of tb_ok_270 (by omega) (by omega)
  rcases Nat.lt_or_ge y 282 with h | h
  · exact so_tok_of tb_ok_276 (by omega) (by omega)
  rcases Nat.lt_or_ge y 288 with h | h
  · exact so_tok_of tb_ok_282 (by omega) (by omega)
  rcases Nat.lt_or_ge y 294 with h | h
  · exact so_tok_of tb_ok_288 (by omega) (by omega)
  rcases Nat.lt_or_ge y 300 with h | h
  · exact so_tok_of tb_ok_294 (by omega) (by omega)
  exact so_tok_of tb_ok_300 (by omega) (by omega)
