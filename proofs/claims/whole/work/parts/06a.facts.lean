set_option maxRecDepth 20000 in
theorem q_cf0 : q_cf 0 (RX0, TX0, 3) := by
  refine ⟨List.forall_mem_cons.mpr ⟨(q_lk_in in_2 55 rfl rfl), List.forall_mem_cons.mpr ⟨(q_lk_in in_2 57 rfl rfl), List.forall_mem_cons.mpr ⟨(q_lk_in in_2 59 rfl rfl), fun _ h => absurd h List.not_mem_nil⟩⟩⟩, tyX0, tyX0_ok, nmX0, ?_⟩
  intro k hk
  match k, hk with
    | 0, _ => exact ⟨rfl, fun _ => ⟨rfl, fun a => ⟨rfl, rfl, rfl⟩⟩, fun h => absurd h (by decide)⟩
    | 1, _ => exact ⟨rfl, fun _ => ⟨rfl, fun a => ⟨rfl, rfl, rfl⟩⟩, fun h => absurd h (by decide)⟩
    | 2, _ => exact ⟨rfl, fun _ => ⟨rfl, fun a => ⟨rfl, rfl, rfl⟩⟩, fun h => absurd h (by decide)⟩
    | k + 3, h => exact absurd h (by show ¬ k + 3 < 3; omega)
set_option maxRecDepth 20000 in
theorem q_cf1 : q_cf 1 (RX1, TX1, 6) := by
  refine ⟨List.forall_mem_cons.mpr ⟨(q_lk_in in_2 87 rfl rfl), List.forall_mem_cons.mpr ⟨(q_lk_in in_2 89 rfl rfl), List.forall_mem_cons.mpr ⟨(q_lk_in in_2 91 rfl rfl), List.forall_mem_cons.mpr ⟨(q_lk_in in_2 93 rfl rfl), List.forall_mem_cons.mpr ⟨(q_lk_in in_2 95 rfl rfl), List.forall_mem_cons.mpr ⟨(q_lk_in in_2 97 rfl rfl), fun _ h => absurd h List.not_mem_nil⟩⟩⟩⟩⟩⟩, tyX1, tyX1_ok, nmX1, ?_⟩
  intro k hk
  match k, hk with
    | 0, _ => exact ⟨rfl, fun _ => ⟨rfl, fun a => ⟨rfl, rfl, rfl⟩⟩, fun h => absurd h (by decide)⟩
    | 1, _ => exact ⟨rfl, fun _ => ⟨rfl, fun a => ⟨rfl, rfl, rfl⟩⟩, fun h => absurd h (by decide)⟩
    | 2, _ => exact ⟨rfl, fun _ => ⟨rfl, fun a => ⟨rfl, rfl, rfl⟩⟩, fun h => absurd h (by decide)⟩
    | 3, _ => exact ⟨rfl, fun _ => ⟨rfl, fun a => ⟨rfl, rfl, rfl⟩⟩, fun h => absurd h (by decide)⟩
    | 4, _ => exact ⟨rfl, fun _ => ⟨rfl, fun a => ⟨rfl, rfl, rfl⟩⟩, fun h => absurd h (by decide)⟩
    | 5, _ => exact ⟨rfl, fun _ => ⟨rfl, fun a => ⟨rfl, rfl, rfl⟩⟩, fun h => absurd h (by decide)⟩
    | k + 6, h => exact absurd h (by show ¬ k + 6 < 6; omega)
set_option maxRecDepth 20000 in
theorem q_cf2 : q_cf 2 (RX2, TX2, 8) := by
  refine ⟨List.forall_mem_cons.mpr ⟨(q_lk_in in_2 133 rfl rfl), List.forall_mem_cons.mpr ⟨(q_lk_in in_2 135 rfl rfl), List.forall_mem_cons.mpr ⟨(q_lk_in in_2 137 rfl rfl), List.forall_mem_cons.mpr ⟨(q_lk_in in_2 139 rfl rfl), List.forall_mem_cons.mpr ⟨(q_lk_in in_2 141 rfl rfl), List.forall_mem_cons.mpr ⟨(q_lk_in in_2 143 rfl rfl), List.forall_mem_cons.mpr ⟨(q_lk_in in_2 145 rfl rfl), List.forall_mem_cons.mpr ⟨(q_lk_in in_2 147 rfl rfl), fun _ h => absurd h List.not_mem_nil⟩⟩⟩⟩⟩⟩⟩⟩, tyX2, tyX2_ok, nmX2, ?_⟩
  intro k hk
  match k, hk with
    | 0, _ => exact ⟨rfl, fun _ => ⟨rfl, fun a => ⟨rfl, rfl, rfl⟩⟩, fun h => absurd h (by decide)⟩
    | 1, _ => exact ⟨rfl, fun _ => ⟨rfl, fun a => ⟨rfl, rfl, rfl⟩⟩, fun h => absurd h (by decide)⟩
    | 2, _ => exact ⟨rfl, fun _ => ⟨rfl, fun a => ⟨rfl, rfl, rfl⟩⟩, fun h => absurd h (by decide)⟩
    | 3, _ => exact ⟨rfl, fun _ => ⟨rfl, fun a => ⟨rfl, rfl, rfl⟩⟩, fun h => absurd h (by decide)⟩
    | 4, _ => exact ⟨rfl, fun _ => ⟨rfl, fun a => ⟨rfl, rfl, rfl⟩⟩, fun h => absurd h (by decide)⟩
    | 5, _ => exact ⟨rfl, fun _ => ⟨rfl, fun a => ⟨rfl, rfl, rfl⟩⟩, fun h => absurd h (by decide)⟩
    | 6, _ => exact ⟨rfl, fun _ => ⟨rfl, fun a => ⟨rfl, rfl, rfl⟩⟩, fun h => absurd h (by decide)⟩
    | 7, _ => exact ⟨rfl, fun h => absurd h (by decide), fun _ => ⟨rfl, rfl⟩⟩
    | k + 8, h => exact absurd h (by show ¬ k + 8 < 8; omega)
set_option maxRecDepth 20000 in
theorem q_cf3 : q_cf 3 (RX3, TX3, 3) := by
  refine ⟨List.forall_mem_cons.mpr ⟨(q_lk_in in_2 39 rfl rfl), List.forall_mem_cons.mpr ⟨(q_lk_in in_2 41 rfl rfl), List.forall_mem_cons.mpr ⟨(q_lk_in in_2 43 rfl rfl), fun _ h => absurd h List.not_mem_nil⟩⟩⟩, tyX3, tyX3_ok, nmX3, ?_⟩
  intro k hk
  match k, hk with
    | 0, _ => exact ⟨rfl, fun _ => ⟨rfl, fun a => ⟨rfl, rfl, rfl⟩⟩, fun h => absurd h (by decide)⟩
    | 1, _ => exact ⟨rfl, fun h => absurd h (by decide), fun _ => ⟨rfl, rfl⟩⟩
    | 2, _ => exact ⟨rfl, fun h => absurd h (by decide), fun _ => ⟨rfl, rfl⟩⟩
    | k + 3, h => exact absurd h (by show ¬ k + 3 < 3; omega)
set_option maxRecDepth 20000 in
theorem q_cf4 : q_cf 4 (RX4, TX4, 9) := by
  refine ⟨List.forall_mem_cons.mpr ⟨(q_lk_in in_1 237 rfl rfl), List.forall_mem_cons.mpr ⟨(q_lk_in in_1 239 rfl rfl), List.forall_mem_cons.mpr ⟨(q_lk_in in_2 1 rfl rfl), List.forall_mem_cons.mpr ⟨(q_lk_in in_2 3 rfl rfl), List.forall_mem_cons.mpr ⟨(q_lk_in in_2 5 rfl rfl), List.forall_mem_cons.mpr ⟨(q_lk_in in_2 7 rfl rfl), List.forall_mem_cons.mpr ⟨(q_lk_in in_2 9 rfl rfl), List.forall_mem_cons.mpr ⟨(q_lk_in in_2 11 rfl rfl), List.forall_mem_cons.mpr ⟨(q_lk_in in_2 13 rfl rfl), fun _ h => absurd h List.not_mem_nil⟩⟩⟩⟩⟩⟩⟩⟩⟩, tyX4, tyX4_ok, nmX4, ?_⟩
  intro k hk
  match k, hk with
    | 0, _ => exact ⟨rfl, fun h => absurd h (by decide), fun _ => ⟨rfl, rfl⟩⟩
    | 1, _ => exact ⟨rfl, fun _ => ⟨rfl, fun a => ⟨rfl, rfl, rfl⟩⟩, fun h => absurd h (by decide)⟩
    | 2, _ => exact ⟨rfl, fun _ => ⟨rfl, fun a => ⟨rfl, rfl, rfl⟩⟩, fun h => absurd h (by decide)⟩
    | 3, _ => exact ⟨rfl, fun _ => ⟨rfl, fun a => ⟨rfl, rfl, rfl⟩⟩, fun h => absurd h (by decide)⟩
    | 4, _ => exact ⟨rfl, fun _ => ⟨rfl, fun a => ⟨rfl, rfl, rfl⟩⟩, fun h => absurd h (by decide)⟩
    | 5, _ => exact ⟨rfl, fun h => absurd h (by decide), fun _ => ⟨rfl, rfl⟩⟩
    | 6, _ => exact ⟨rfl, fun _ => ⟨rfl, fun a => ⟨rfl, rfl, rfl⟩⟩, fun h => absurd h (by decide)⟩
    | 7, _ => exact ⟨rfl, fun h => absurd h (by decide), fun _ => ⟨rfl, rfl⟩⟩
    | 8, _ => exact ⟨rfl, fun h => absurd h (by decide), fun _ => ⟨rfl, rfl⟩⟩
    | k + 9, h => exact absurd h (by show ¬ k + 9 < 9; omega)
set_option maxRecDepth 20000 in
theorem q_cf5 : q_cf 5 (RX5, TX5, 2) := by
  refine ⟨List.forall_mem_cons.mpr ⟨(q_lk_in in_2 70 rfl rfl), List.forall_mem_cons.mpr ⟨(q_lk_in in_2 72 rfl rfl), fun _ h => absurd h List.not_mem_nil⟩⟩, tyX5, tyX5_ok, nmX5, ?_⟩
  intro k hk
  match k, hk with
    | 0, _ => exact ⟨rfl, fun _ => ⟨rfl, fun a => ⟨rfl, rfl, rfl⟩⟩, fun h => absurd h (by decide)⟩
    | 1, _ => exact ⟨rfl, fun _ => ⟨rfl, fun a => ⟨rfl, rfl, rfl⟩⟩, fun h => absurd h (by decide)⟩
    | k + 2, h => exact absurd h (by show ¬ k + 2 < 2; omega)
set_option maxRecDepth 20000 in
theorem q_cf6 : q_cf 6 (RX6, TX6, 1) := by
  refine ⟨List.forall_mem_cons.mpr ⟨(q_lk_in in_2 23 rfl rfl), fun _ h => absurd h List.not_mem_nil⟩, tyX6, tyX6_ok, nmX6, ?_⟩
  intro k hk
  match k, hk with
    | 0, _ => exact ⟨rfl, fun _ => ⟨rfl, fun a => ⟨rfl, rfl, rfl⟩⟩, fun h => absurd h (by decide)⟩
    | k + 1, h => exact absurd h (by show ¬ k + 1 < 1; omega)
set_option maxRecDepth 20000 in
theorem q_cf7 : q_cf 7 (RX7, TX7, 10) := by
  refine ⟨List.forall_mem_cons.mpr ⟨(q_lk_in in_1 200 rfl rfl), List.forall_mem_cons.mpr ⟨(q_lk_in in_1 202 rfl rfl), List.forall_mem_cons.mpr ⟨(q_lk_in in_1 204 rfl rfl), List.forall_mem_cons.mpr ⟨(q_lk_in in_1 206 rfl rfl), List.forall_mem_cons.mpr ⟨(q_lk_in in_1 208 rfl rfl), List.forall_mem_cons.mpr ⟨(q_lk_in in_1 210 rfl rfl), List.forall_mem_cons.mpr ⟨(q_lk_in in_1 212 rfl rfl), List.forall_mem_cons.mpr ⟨(q_lk_in in_1 214 rfl rfl), List.forall_mem_cons.mpr ⟨(q_lk_in in_1 216 rfl rfl), List.forall_mem_cons.mpr ⟨(q_lk_in in_1 218 rfl rfl), fun _ h => absurd h List.not_mem_nil⟩⟩⟩⟩⟩⟩⟩⟩⟩⟩, tyX7, tyX7_ok, nmX7, ?_⟩
  intro k hk
  match k, hk with
    | 0, _ => exact ⟨rfl, fun _ => ⟨rfl, fun a => ⟨rfl, rfl, rfl⟩⟩, fun h => absurd h (by decide)⟩
    | 1, _ => exact ⟨rfl, fun _ => ⟨rfl, fun a => ⟨rfl, rfl, rfl⟩⟩, fun h => absurd h (by decide)⟩
    | 2, _ => exact ⟨rfl, fun _ => ⟨rfl, fun a => ⟨rfl, rfl, rfl⟩⟩, fun h => absurd h (by decide)⟩
    | 3, _ => exact ⟨rfl, fun _ => ⟨rfl, fun a => ⟨rfl, rfl, rfl⟩⟩, fun h => absurd h (by decide)⟩
    | 4, _ => exact ⟨rfl, fun h => absurd h (by decide), fun _ => ⟨rfl, rfl⟩⟩
    | 5, _ => exact ⟨rfl, fun h => absurd h (by decide), fun _ => ⟨rfl, rfl⟩⟩
    | 6, _ => exact ⟨rfl, fun h => absurd h (by decide), fun _ => ⟨rfl, rfl⟩⟩
    | 7, _ => exact ⟨rfl, fun h => absurd h (by decide), fun _ => ⟨rfl, rfl⟩⟩
    | 8, _ => exact ⟨rfl, fun h => absurd h (by decide), fun _ => ⟨rfl, rfl⟩⟩
    | 9, _ => exact ⟨rfl, fun h => absurd h (by decide), fun _ => ⟨rfl, rfl⟩⟩
    | k + 10, h => exact absurd h (by show ¬ k + 10 < 10; omega)
set_option maxRecDepth 20000 in
theorem q_cf8 : q_cf 8 (RX8, TX8, 4) := by
  refine ⟨List.forall_mem_cons.mpr ⟨(q_lk_in in_2 110 rfl rfl), List.forall_mem_cons.mpr ⟨(q_lk_in in_2 112 rfl rfl), List.forall_mem_cons.mpr ⟨(q_lk_in in_2 114 rfl rfl), List.forall_mem_cons.mpr ⟨(q_lk_in in_2 116 rfl rfl), fun _ h => absurd h List.not_mem_nil⟩⟩⟩⟩, tyX8, tyX8_ok, nmX8, ?_⟩
  intro k hk
  match k, hk with
    | 0, _ => exact ⟨rfl, fun _ => ⟨rfl, fun a => ⟨rfl, rfl, rfl⟩⟩, fun h => absurd h (by decide)⟩
    | 1, _ => exact ⟨rfl, fun _ => ⟨rfl, fun a => ⟨rfl, rfl, rfl⟩⟩, fun h => absurd h (by decide)⟩
    | 2, _ => exact ⟨rfl, fun _ => ⟨rfl, fun a => ⟨rfl, rfl, rfl⟩⟩, fun h => absurd h (by decide)⟩
    | 3, _ => exact ⟨rfl, fun _ => ⟨rfl, fun a => ⟨rfl, rfl, rfl⟩⟩, fun h => absurd h (by decide)⟩
    | k + 4, h => exact absurd h (by show ¬ k + 4 < 4; omega)
set_option maxRecDepth 20000 in
theorem q_cf9 : q_cf 9 (RX9, TX9, 13) := by
  refine ⟨List.forall_mem_cons.mpr ⟨(q_lk_in in_1 127 rfl rfl), List.forall_mem_cons.mpr ⟨(q_lk_in in_1 129 rfl rfl), List.forall_mem_cons.mpr ⟨(q_lk_in in_1 131 rfl rfl), List.forall_mem_cons.mpr ⟨(q_lk_in in_1 133 rfl rfl), List.forall_mem_cons.mpr ⟨(q_lk_in in_1 135 rfl rfl), List.forall_mem_cons.mpr ⟨(q_lk_in in_1 137 rfl rfl), List.forall_mem_cons.mpr ⟨(q_lk_in in_1 139 rfl rfl), List.forall_mem_cons.mpr ⟨(q_lk_in in_1 141 rfl rfl), List.forall_mem_cons.mpr ⟨(q_lk_in in_1 143 rfl rfl), List.forall_mem_cons.mpr ⟨(q_lk_in in_1 145 rfl rfl), List.forall_mem_cons.mpr ⟨(q_lk_in in_1 147 rfl rfl), List.forall_mem_cons.mpr ⟨(q_lk_in in_1 149 rfl rfl), List.forall_mem_cons.mpr ⟨(q_lk_in in_1 151 rfl rfl), fun _ h => absurd h List.not_mem_nil⟩⟩⟩⟩⟩⟩⟩⟩⟩⟩⟩⟩⟩, tyX9, tyX9_ok, nmX9, ?_⟩
  intro k hk
  match k, hk with
    | 0, _ => exact ⟨rfl, fun h => absurd h (by decide), fun _ => ⟨rfl, rfl⟩⟩
    | 1, _ => exact ⟨rfl, fun _ => ⟨rfl, fun a => ⟨rfl, rfl, rfl⟩⟩, fun h => absurd h (by decide)⟩
    | 2, _ => exact ⟨rfl, fun _ => ⟨rfl, fun a => ⟨rfl, rfl, rfl⟩⟩, fun h => absurd h (by decide)⟩
    | 3, _ => exact ⟨rfl, fun _ => ⟨rfl, fun a => ⟨rfl, rfl, rfl⟩⟩, fun h => absurd h (by decide)⟩
    | 4, _ => exact ⟨rfl, fun _ => ⟨rfl, fun a => ⟨rfl, rfl, rfl⟩⟩, fun h => absurd h (by decide)⟩
    | 5, _ => exact ⟨rfl, fun h => absurd h (by decide), fun _ => ⟨rfl, rfl⟩⟩
    | 6, _ => exact ⟨rfl, fun _ => ⟨rfl, fun a => ⟨rfl, rfl, rfl⟩⟩, fun h => absurd h (by decide)⟩
    | 7, _ => exact ⟨rfl, fun _ => ⟨rfl, fun a => ⟨rfl, rfl, rfl⟩⟩, fun h => absurd h (by decide)⟩
    | 8, _ => exact ⟨rfl, fun _ => ⟨rfl, fun a => ⟨rfl, rfl, rfl⟩⟩, fun h => absurd h (by decide)⟩
    | 9, _ => exact ⟨rfl, fun h => absurd h (by decide), fun _ => ⟨rfl, rfl⟩⟩
    | 10, _ => exact ⟨rfl, fun h => absurd h (by decide), fun _ => ⟨rfl, rfl⟩⟩
    | 11, _ => exact ⟨rfl, fun h => absurd h (by decide), fun _ => ⟨rfl, rfl⟩⟩
    | 12, _ => exact ⟨rfl, fun h => absurd h (by decide), fun _ => ⟨rfl, rfl⟩⟩
    | k + 13, h => exact absurd h (by show ¬ k + 13 < 13; omega)
set_option maxRecDepth 20000 in
theorem q_cf10 : q_cf 10 (RX10, TX10, 7) := by
  refine ⟨List.forall_mem_cons.mpr ⟨(q_lk_in in_1 56 rfl rfl), List.forall_mem_cons.mpr ⟨(q_lk_in in_1 58 rfl rfl), List.forall_mem_cons.mpr ⟨(q_lk_in in_1 60 rfl rfl), List.forall_mem_cons.mpr ⟨(q_lk_in in_1 62 rfl rfl), List.forall_mem_cons.mpr ⟨(q_lk_in in_1 64 rfl rfl), List.forall_mem_cons.mpr ⟨(q_lk_in in_1 66 rfl rfl), List.forall_mem_cons.mpr ⟨(q_lk_in in_1 68 rfl rfl), fun _ h => absurd h List.not_mem_nil⟩⟩⟩⟩⟩⟩⟩, tyX10, tyX10_ok, nmX10, ?_⟩
  intro k hk
  match k, hk with
    | 0, _ => exact ⟨rfl, fun _ => ⟨rfl, fun a => ⟨rfl, rfl, rfl⟩⟩, fun h => absurd h (by decide)⟩
    | 1, _ => exact ⟨rfl, fun h => absurd h (by decide), fun _ => ⟨rfl, rfl⟩⟩
    | 2, _ => exact ⟨rfl, fun h => absurd h (by decide), fun _ => ⟨rfl, rfl⟩⟩
    | 3, _ => exact ⟨rfl, fun h => absurd h (by decide), fun _ => ⟨rfl, rfl⟩⟩
    | 4, _ => exact ⟨rfl, fun h => absurd h (by decide), fun _ => ⟨rfl, rfl⟩⟩
    | 5, _ => exact ⟨rfl, fun h => absurd h (by decide), fun _ => ⟨rfl, rfl⟩⟩
    | 6, _ => exact ⟨rfl, fun h => absurd h (by decide), fun _ => ⟨rfl, rfl⟩⟩
    | k + 7, h => exact absurd h (by show ¬ k + 7 < 7; omega)
set_option maxRecDepth 20000 in
theorem q_cf11 : q_cf 11 (RX11, TX11, 20) := by
  refine ⟨List.forall_mem_cons.mpr ⟨(q_lk_in in_2 170 rfl rfl), List.forall_mem_cons.mpr ⟨(q_lk_in in_2 172 rfl rfl), List.forall_mem_cons.mpr ⟨(q_lk_in in_2 174 rfl rfl), List.forall_mem_cons.mpr ⟨(q_lk_in in_2 176 rfl rfl), List.forall_mem_cons.mpr ⟨(q_lk_in in_2 178 rfl rfl), List.forall_mem_cons.mpr ⟨(q_lk_in in_2 180 rfl rfl), List.forall_mem_cons.mpr ⟨(q_lk_in in_2 182 rfl rfl), List.forall_mem_cons.mpr ⟨(q_lk_in in_2 184 rfl rfl), List.forall_mem_cons.mpr ⟨(q_lk_in in_2 186 rfl rfl), List.forall_mem_cons.mpr ⟨(q_lk_in in_2 188 rfl rfl), List.forall_mem_cons.mpr ⟨(q_lk_in in_2 190 rfl rfl), List.forall_mem_cons.mpr ⟨(q_lk_in in_2 192 rfl rfl), List.forall_mem_cons.mpr ⟨(q_lk_in in_2 194 rfl rfl), List.forall_mem_cons.mpr ⟨(q_lk_in in_2 196 rfl rfl), List.forall_mem_cons.mpr ⟨(q_lk_in in_2 198 rfl rfl), List.forall_mem_cons.mpr ⟨(q_lk_in in_2 200 rfl rfl), List.forall_mem_cons.mpr ⟨(q_lk_in in_2 202 rfl rfl), List.forall_mem_cons.mpr ⟨(q_lk_in in_2 204 rfl rfl), List.forall_mem_cons.mpr ⟨(q_lk_in in_2 206 rfl rfl), List.forall_mem_cons.mpr ⟨(q_lk_in in_2 208 rfl rfl), fun _ h => absurd h List.not_mem_nil⟩⟩⟩⟩⟩⟩⟩⟩⟩⟩⟩⟩⟩⟩⟩⟩⟩⟩⟩⟩, tyX11, tyX11_ok, nmX11, ?_⟩
  intro k hk
  match k, hk with
    | 0, _ => exact ⟨rfl, fun _ => ⟨rfl, fun a => ⟨rfl, rfl, rfl⟩⟩, fun h => absurd h (by decide)⟩
    | 1, _ => exact ⟨rfl, fun _ => ⟨rfl, fun a => ⟨rfl, rfl, rfl⟩⟩, fun h => absurd h (by decide)⟩
    | 2, _ => exact ⟨rfl, fun _ => ⟨rfl, fun a => ⟨rfl, rfl, rfl⟩⟩, fun h => absurd h (by decide)⟩
    | 3, _ => exact ⟨rfl, fun _ => ⟨rfl, fun a => ⟨rfl, rfl, rfl⟩⟩, fun h => absurd h (by decide)⟩
    | 4, _ => exact ⟨rfl, fun _ => ⟨rfl, fun a => ⟨rfl, rfl, rfl⟩⟩, fun h => absurd h (by decide)⟩
    | 5, _ => exact ⟨rfl, fun _ => ⟨rfl, fun a => ⟨rfl, rfl, rfl⟩⟩, fun h => absurd h (by decide)⟩
    | 6, _ => exact ⟨rfl, fun _ => ⟨rfl, fun a => ⟨rfl, rfl, rfl⟩⟩, fun h => absurd h (by decide)⟩
    | 7, _ => exact ⟨rfl, fun _ => ⟨rfl, fun a => ⟨rfl, rfl, rfl⟩⟩, fun h => absurd h (by decide)⟩
    | 8, _ => exact ⟨rfl, fun _ => ⟨rfl, fun a => ⟨rfl, rfl, rfl⟩⟩, fun h => absurd h (by decide)⟩
    | 9, _ => exact ⟨rfl, fun _ => ⟨rfl, fun a => ⟨rfl, rfl, rfl⟩⟩, fun h => absurd h (by decide)⟩
    | 10, _ => exact ⟨rfl, fun _ => ⟨rfl, fun a => ⟨rfl, rfl, rfl⟩⟩, fun h => absurd h (by decide)⟩
    | 11, _ => exact ⟨rfl, fun _ => ⟨rfl, fun a => ⟨rfl, rfl, rfl⟩⟩, fun h => absurd h (by decide)⟩
    | 12, _ => exact ⟨rfl, fun _ => ⟨rfl, fun a => ⟨rfl, rfl, rfl⟩⟩, fun h => absurd h (by decide)⟩
    | 13, _ => exact ⟨rfl, fun _ => ⟨rfl, fun a => ⟨rfl, rfl, rfl⟩⟩, fun h => absurd h (by decide)⟩
    | 14, _ => exact ⟨rfl, fun _ => ⟨rfl, fun a => ⟨rfl, rfl, rfl⟩⟩, fun h => absurd h (by decide)⟩
    | 15, _ => exact ⟨rfl, fun _ => ⟨rfl, fun a => ⟨rfl, rfl, rfl⟩⟩, fun h => absurd h (by decide)⟩
    | 16, _ => exact ⟨rfl, fun _ => ⟨rfl, fun a => ⟨rfl, rfl, rfl⟩⟩, fun h => absurd h (by decide)⟩
    | 17, _ => exact ⟨rfl, fun _ => ⟨rfl, fun a => ⟨rfl, rfl, rfl⟩⟩, fun h => absurd h (by decide)⟩
    | 18, _ => exact ⟨rfl, fun h => absurd h (by decide), fun _ => ⟨rfl, rfl⟩⟩
    | 19, _ => exact ⟨rfl, fun h => absurd h (by decide), fun _ => ⟨rfl, rfl⟩⟩
    | k + 20, h => exact absurd h (by show ¬ k + 20 < 20; omega)
set_option maxRecDepth 20000 in
theorem q_cf12 : q_cf 12 (RX12, TX12, 25) := by
  refine ⟨List.forall_mem_cons.mpr ⟨(q_lk_in in_7 169 rfl rfl), List.forall_mem_cons.mpr ⟨(q_lk_in in_7 171 rfl rfl), List.forall_mem_cons.mpr ⟨(q_lk_in in_7 173 rfl rfl), List.forall_mem_cons.mpr ⟨(q_lk_in in_7 175 rfl rfl), List.forall_mem_cons.mpr ⟨(q_lk_in in_7 177 rfl rfl), List.forall_mem_cons.mpr ⟨(q_lk_in in_7 179 rfl rfl), List.forall_mem_cons.mpr ⟨(q_lk_in in_7 181 rfl rfl), List.forall_mem_cons.mpr ⟨(q_lk_in in_7 183 rfl rfl), List.forall_mem_cons.mpr ⟨(q_lk_in in_7 185 rfl rfl), List.forall_mem_cons.mpr ⟨(q_lk_in in_7 187 rfl rfl), List.forall_mem_cons.mpr ⟨(q_lk_in in_7 189 rfl rfl), List.forall_mem_cons.mpr ⟨(q_lk_in in_7 191 rfl rfl), List.forall_mem_cons.mpr ⟨(q_lk_in in_7 193 rfl rfl), List.forall_mem_cons.mpr ⟨(q_lk_in in_7 195 rfl rfl), List.forall_mem_cons.mpr ⟨(q_lk_in in_7 197 rfl rfl), List.forall_mem_cons.mpr ⟨(q_lk_in in_7 199 rfl rfl), List.forall_mem_cons.mpr ⟨(q_lk_in in_7 201 rfl rfl), List.forall_mem_cons.mpr ⟨(q_lk_in in_7 203 rfl rfl), List.forall_mem_cons.mpr ⟨(q_lk_in in_7 205 rfl rfl), List.forall_mem_cons.mpr ⟨(q_lk_in in_7 207 rfl rfl), List.forall_mem_cons.mpr ⟨(q_lk_in in_7 209 rfl rfl), List.forall_mem_cons.mpr ⟨(q_lk_in in_7 211 rfl rfl), List.forall_mem_cons.mpr ⟨(q_lk_in in_7 213 rfl rfl), List.forall_mem_cons.mpr ⟨(q_lk_in in_7 215 rfl rfl), List.forall_mem_cons.mpr ⟨(q_lk_in in_7 217 rfl rfl), fun _ h => absurd h List.not_mem_nil⟩⟩⟩⟩⟩⟩⟩⟩⟩⟩⟩⟩⟩⟩⟩⟩⟩⟩⟩⟩⟩⟩⟩⟩⟩, tyX12, tyX12_ok, nmX12, ?_⟩
  intro k hk
  match k, hk with
    | 0, _ => exact ⟨rfl, fun h => absurd h (by decide), fun _ => ⟨rfl, rfl⟩⟩
    | 1, _ => exact ⟨rfl, fun _ => ⟨rfl, fun a => ⟨rfl, rfl, rfl⟩⟩, fun h => absurd h (by decide)⟩
    | 2, _ => exact ⟨rfl, fun _ => ⟨rfl, fun a => ⟨rfl, rfl, rfl⟩⟩, fun h => absurd h (by decide)⟩
    | 3, _ => exact ⟨rfl, fun h => absurd h (by decide), fun _ => ⟨rfl, rfl⟩⟩
    | 4, _ => exact ⟨rfl, fun _ => ⟨rfl, fun a => ⟨rfl, rfl, rfl⟩⟩, fun h => absurd h (by decide)⟩
    | 5, _ => exact ⟨rfl, fun _ => ⟨rfl, fun a => ⟨rfl, rfl, rfl⟩⟩, fun h => absurd h (by decide)⟩
    | 6, _ => exact ⟨rfl, fun h => absurd h (by decide), fun _ => ⟨rfl, rfl⟩⟩
    | 7, _ => exact ⟨rfl, fun _ => ⟨rfl, fun a => ⟨rfl, rfl, rfl⟩⟩, fun h => absurd h (by decide)⟩
    | 8, _ => exact ⟨rfl, fun h => absurd h (by decide), fun _ => ⟨rfl, rfl⟩⟩
    | 9, _ => exact ⟨rfl, fun h => absurd h (by decide), fun _ => ⟨rfl, rfl⟩⟩
    | 10, _ => exact ⟨rfl, fun h => absurd h (by decide), fun _ => ⟨rfl, rfl⟩⟩
    | 11, _ => exact ⟨rfl, fun h => absurd h (by decide), fun _ => ⟨rfl, rfl⟩⟩
    | 12, _ => exact ⟨rfl, fun h => absurd h (by decide), fun _ => ⟨rfl, rfl⟩⟩
    | 13, _ => exact ⟨rfl, fun h => absurd h (by decide), fun _ => ⟨rfl, rfl⟩⟩
    | 14, _ => exact ⟨rfl, fun h => absurd h (by decide), fun _ => ⟨rfl, rfl⟩⟩
    | 15, _ => exact ⟨rfl, fun _ => ⟨rfl, fun a => ⟨rfl, rfl, rfl⟩⟩, fun h => absurd h (by decide)⟩
    | 16, _ => exact ⟨rfl, fun h => absurd h (by decide), fun _ => ⟨rfl, rfl⟩⟩
    | 17, _ => exact ⟨rfl, fun h => absurd h (by decide), fun _ => ⟨rfl, rfl⟩⟩
    | 18, _ => exact ⟨rfl, fun h => absurd h (by decide), fun _ => ⟨rfl, rfl⟩⟩
    | 19, _ => exact ⟨rfl, fun h => absurd h (by decide), fun _ => ⟨rfl, rfl⟩⟩
    | 20, _ => exact ⟨rfl, fun h => absurd h (by decide), fun _ => ⟨rfl, rfl⟩⟩
    | 21, _ => exact ⟨rfl, fun _ => ⟨rfl, fun a => ⟨rfl, rfl, rfl⟩⟩, fun h => absurd h (by decide)⟩
    | 22, _ => exact ⟨rfl, fun _ => ⟨rfl, fun a => ⟨rfl, rfl, rfl⟩⟩, fun h => absurd h (by decide)⟩
    | 23, _ => exact ⟨rfl, fun _ => ⟨rfl, fun a => ⟨rfl, rfl, rfl⟩⟩, fun h => absurd h (by decide)⟩
    | 24, _ => exact ⟨rfl, fun _ => ⟨rfl, fun a => ⟨rfl, rfl, rfl⟩⟩, fun h => absurd h (by decide)⟩
    | k + 25, h => exact absurd h (by show ¬ k + 25 < 25; omega)
theorem q_cfs : ∀ (ci : Nat) (w : vw_C), vwCl[ci]? = some w → q_cf ci w := by
  intro ci w hw
  match ci, hw with
  | 0, hw => cases hw; exact q_cf0
  | 1, hw => cases hw; exact q_cf1
  | 2, hw => cases hw; exact q_cf2
  | 3, hw => cases hw; exact q_cf3
  | 4, hw => cases hw; exact q_cf4
  | 5, hw => cases hw; exact q_cf5
  | 6, hw => cases hw; exact q_cf6
  | 7, hw => cases hw; exact q_cf7
  | 8, hw => cases hw; exact q_cf8
  | 9, hw => cases hw; exact q_cf9
  | 10, hw => cases hw; exact q_cf10
  | 11, hw => cases hw; exact q_cf11
  | 12, hw => cases hw; exact q_cf12
  | n + 13, hw => exact absurd (q_lt13 hw) (by omega)
theorem q_gws : q_gw := ⟨⟨(q_lk_in in_1 35 rfl rfl), (q_lk_in in_1 36 rfl rfl)⟩, ⟨(q_lk_in in_1 25 rfl rfl), ⟨(q_lk_in in_3 39 rfl rfl), (q_lk_in in_3 40 rfl rfl)⟩, ⟨(q_lk_in in_3 36 rfl rfl), (q_lk_in in_3 37 rfl rfl)⟩, ⟨(q_lk_in in_3 54 rfl rfl), (q_lk_in in_3 55 rfl rfl)⟩⟩, ⟨(q_lk_in in_3 113 rfl rfl), (q_lk_in in_3 112 rfl rfl), (q_lk_in in_1 14 rfl rfl)⟩, ⟨(q_lk_in in_1 154 rfl rfl), (q_lk_in in_1 71 rfl rfl), (q_lk_in in_9 237 rfl rfl), (q_lk_mem in_2 33 rfl)⟩⟩
set_option maxRecDepth 100000 in
theorem q_xa153_0 : ∀ w ∈ vx_atS "JarCabinet" 153 (q_exn 0) q_up, w ∈ lw_tbl ∧ q_isn w = true := by decide +kernel
set_option maxRecDepth 100000 in
theorem q_xa163_1 : ∀ w ∈ vx_atS "JarCabinet" 163 (q_exn 1) q_up, w ∈ lw_tbl ∧ q_isn w = true := by decide +kernel
set_option maxRecDepth 100000 in
theorem q_xa240_2 : ∀ w ∈ vx_atS "JarCabinet" 240 (q_exn 2) q_up, w ∈ lw_tbl ∧ q_isn w = true := by decide +kernel
set_option maxRecDepth 100000 in
theorem q_xa459_4 : ∀ w ∈ vx_atS "JarCabinet" 459 (q_exn 4) q_up, w ∈ lw_tbl ∧ q_isn w = true := by decide +kernel
set_option maxRecDepth 100000 in
theorem q_el_ok : ∀ q ∈ q_tb.2.2.2.2.2.2.2, q.2.2.2.2 = 3 ∨ q_xf q_sk (q_cn q.1) q.2.1 q.2.2.1 q.2.2.2.1 q.2.2.2.2 := List.forall_mem_cons.mpr ⟨Or.inr ⟨by decide +kernel, (q_lk_in in_4 216 rfl rfl), (q_lk_in in_1 22 rfl rfl), ⟨0, _, rfl, rfl, rfl⟩, q_xa153_0, by decide +kernel⟩, List.forall_mem_cons.mpr ⟨Or.inr ⟨by decide +kernel, (q_lk_in in_5 45 rfl rfl), (q_lk_in in_1 23 rfl rfl), ⟨1, _, rfl, rfl, rfl⟩, q_xa163_1, by decide +kernel⟩, List.forall_mem_cons.mpr ⟨Or.inr ⟨by decide +kernel, (q_lk_in in_4 216 rfl rfl), (q_lk_in in_1 22 rfl rfl), ⟨2, _, rfl, rfl, rfl⟩, q_xa153_0, by decide +kernel⟩, List.forall_mem_cons.mpr ⟨Or.inl rfl, List.forall_mem_cons.mpr ⟨Or.inr ⟨by decide +kernel, (q_lk_in in_5 154 rfl rfl), (q_lk_in in_1 24 rfl rfl), ⟨4, _, rfl, rfl, rfl⟩, q_xa240_2, by decide +kernel⟩, List.forall_mem_cons.mpr ⟨Or.inl rfl, List.forall_mem_cons.mpr ⟨Or.inr ⟨by decide +kernel, (q_lk_in in_4 216 rfl rfl), (q_lk_in in_1 22 rfl rfl), ⟨6, _, rfl, rfl, rfl⟩, q_xa153_0, by decide +kernel⟩, List.forall_mem_cons.mpr ⟨Or.inr ⟨by decide +kernel, (q_lk_in in_4 216 rfl rfl), (q_lk_in in_1 22 rfl rfl), ⟨7, _, rfl, rfl, rfl⟩, q_xa153_0, by decide +kernel⟩, List.forall_mem_cons.mpr ⟨Or.inl rfl, List.forall_mem_cons.mpr ⟨Or.inl rfl, List.forall_mem_cons.mpr ⟨Or.inr ⟨by decide +kernel, (q_lk_in in_5 154 rfl rfl), (q_lk_in in_1 24 rfl rfl), ⟨10, _, rfl, rfl, rfl⟩, q_xa240_2, by decide +kernel⟩, List.forall_mem_cons.mpr ⟨Or.inr ⟨by decide +kernel, (q_lk_in in_5 154 rfl rfl), (q_lk_in in_1 24 rfl rfl), ⟨11, _, rfl, rfl, rfl⟩, q_xa240_2, by decide +kernel⟩, List.forall_mem_cons.mpr ⟨Or.inr ⟨by decide +kernel, (q_lk_in in_5 154 rfl rfl), (q_lk_in in_1 24 rfl rfl), ⟨12, _, rfl, rfl, rfl⟩, q_xa240_2, by decide +kernel⟩, List.forall_mem_cons.mpr ⟨Or.inr ⟨by decide +kernel, (q_lk_in in_4 216 rfl rfl), (q_lk_in in_1 22 rfl rfl), ⟨13, _, rfl, rfl, rfl⟩, q_xa153_0, by decide +kernel⟩, List.forall_mem_cons.mpr ⟨Or.inr ⟨by decide +kernel, (q_lk_in in_4 216 rfl rfl), (q_lk_in in_1 22 rfl rfl), ⟨14, _, rfl, rfl, rfl⟩, q_xa153_0, by decide +kernel⟩, List.forall_mem_cons.mpr ⟨Or.inr ⟨by decide +kernel, (q_lk_in in_6 9 rfl rfl), (q_lk_in in_1 27 rfl rfl), ⟨15, _, rfl, rfl, rfl⟩, q_xa459_4, by decide +kernel⟩, fun _ h => absurd h List.not_mem_nil⟩⟩⟩⟩⟩⟩⟩⟩⟩⟩⟩⟩⟩⟩⟩⟩
theorem q_HT : q_T q_tb q_mt q_sk := ⟨q_cfs, q_fl_ok, q_ml_ok, q_nl_ok, q_xl_ok, q_kl_ok, q_cl_ok, q_sl_ok, q_gws, q_el_ok⟩
