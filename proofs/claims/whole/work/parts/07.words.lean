/-! ===== words of the tables ===== -/
theorem lay_X0_0 : u_lay RX0 TX0 0 ∈ LT := LT_in 165 (by decide +kernel) rfl
theorem lay_X0_1 : u_lay RX0 TX0 1 ∈ LT := LT_in 167 (by decide +kernel) rfl
theorem lay_X0_2 : u_lay RX0 TX0 2 ∈ LT := LT_in 169 (by decide +kernel) rfl
theorem lay_X0_3 : u_lay RX0 TX0 3 ∈ LT := LT_in 171 (by decide +kernel) rfl
theorem lay_X0_4 : u_lay RX0 TX0 4 ∈ LT := LT_in 173 (by decide +kernel) rfl
theorem lay_X0_5 : u_lay RX0 TX0 5 ∈ LT := LT_in 175 (by decide +kernel) rfl
theorem lay_X0_6 : u_lay RX0 TX0 6 ∈ LT := LT_in 177 (by decide +kernel) rfl
theorem in_X0 : ∀ w ∈ u_ws RX0 TX0 7, w ∈ LT := by
  intro w hw
  obtain ⟨k, hk, rfl⟩ := List.mem_map.mp hw
  rw [List.mem_range] at hk
  match k, hk with
  | 0, _ => exact lay_X0_0
  | 1, _ => exact lay_X0_1
  | 2, _ => exact lay_X0_2
  | 3, _ => exact lay_X0_3
  | 4, _ => exact lay_X0_4
  | 5, _ => exact lay_X0_5
  | 6, _ => exact lay_X0_6
  | k + 7, hk => exact absurd hk (by omega)
theorem inst_X0 : Cond.instantiable RX0 7 ∈ LT := LT_in 102 (by decide +kernel) rfl
theorem lay_X1_0 : u_lay RX1 TX1 0 ∈ LT := LT_in 300 (by decide +kernel) rfl
theorem lay_X1_1 : u_lay RX1 TX1 1 ∈ LT := LT_in 302 (by decide +kernel) rfl
theorem lay_X1_2 : u_lay RX1 TX1 2 ∈ LT := LT_in 304 (by decide +kernel) rfl
theorem in_X1 : ∀ w ∈ u_ws RX1 TX1 3, w ∈ LT := by
  intro w hw
  obtain ⟨k, hk, rfl⟩ := List.mem_map.mp hw
  rw [List.mem_range] at hk
  match k, hk with
  | 0, _ => exact lay_X1_0
  | 1, _ => exact lay_X1_1
  | 2, _ => exact lay_X1_2
  | k + 3, hk => exact absurd hk (by omega)
theorem inst_X1 : Cond.instantiable RX1 3 ∈ LT := LT_in 288 (by decide +kernel) rfl
theorem lay_X2_0 : u_lay RX2 TX2 0 ∈ LT := LT_in 82 (by decide +kernel) rfl
theorem lay_X2_1 : u_lay RX2 TX2 1 ∈ LT := LT_in 84 (by decide +kernel) rfl
theorem in_X2 : ∀ w ∈ u_ws RX2 TX2 2, w ∈ LT := by
  intro w hw
  obtain ⟨k, hk, rfl⟩ := List.mem_map.mp hw
  rw [List.mem_range] at hk
  match k, hk with
  | 0, _ => exact lay_X2_0
  | 1, _ => exact lay_X2_1
  | k + 2, hk => exact absurd hk (by omega)
theorem inst_X2 : Cond.instantiable RX2 2 ∈ LT := LT_in 73 (by decide +kernel) rfl
theorem lay_X3_0 : u_lay RX3 TX3 0 ∈ LT := LT_in 255 (by decide +kernel) rfl
theorem lay_X3_1 : u_lay RX3 TX3 1 ∈ LT := LT_in 257 (by decide +kernel) rfl
theorem lay_X3_2 : u_lay RX3 TX3 2 ∈ LT := LT_in 259 (by decide +kernel) rfl
theorem lay_X3_3 : u_lay RX3 TX3 3 ∈ LT := LT_in 261 (by decide +kernel) rfl
theorem lay_X3_4 : u_lay RX3 TX3 4 ∈ LT := LT_in 263 (by decide +kernel) rfl
theorem lay_X3_5 : u_lay RX3 TX3 5 ∈ LT := LT_in 265 (by decide +kernel) rfl
theorem lay_X3_6 : u_lay RX3 TX3 6 ∈ LT := LT_in 267 (by decide +kernel) rfl
theorem in_X3 : ∀ w ∈ u_ws RX3 TX3 7, w ∈ LT := by
  intro w hw
  obtain ⟨k, hk, rfl⟩ := List.mem_map.mp hw
  rw [List.mem_range] at hk
  match k, hk with
  | 0, _ => exact lay_X3_0
  | 1, _ => exact lay_X3_1
  | 2, _ => exact lay_X3_2
  | 3, _ => exact lay_X3_3
  | 4, _ => exact lay_X3_4
  | 5, _ => exact lay_X3_5
  | 6, _ => exact lay_X3_6
  | k + 7, hk => exact absurd hk (by omega)
theorem inst_X3 : Cond.instantiable RX3 7 ∈ LT := LT_in 239 (by decide +kernel) rfl
theorem lay_X4_0 : u_lay RX4 TX4 0 ∈ LT := LT_in 231 (by decide +kernel) rfl
theorem lay_X4_1 : u_lay RX4 TX4 1 ∈ LT := LT_in 233 (by decide +kernel) rfl
theorem lay_X4_2 : u_lay RX4 TX4 2 ∈ LT := LT_in 235 (by decide +kernel) rfl
theorem in_X4 : ∀ w ∈ u_ws RX4 TX4 3, w ∈ LT := by
  intro w hw
  obtain ⟨k, hk, rfl⟩ := List.mem_map.mp hw
  rw [List.mem_range] at hk
  match k, hk with
  | 0, _ => exact lay_X4_0
  | 1, _ => exact lay_X4_1
  | 2, _ => exact lay_X4_2
  | k + 3, hk => exact absurd hk (by omega)
theorem inst_X4 : Cond.instantiable RX4 3 ∈ LT := LT_in 221 (by decide +kernel) rfl
theorem lay_X5_0 : u_lay RX5 TX5 0 ∈ LT := LT_in 96 (by decide +kernel) rfl
theorem lay_X5_1 : u_lay RX5 TX5 1 ∈ LT := LT_in 98 (by decide +kernel) rfl
theorem in_X5 : ∀ w ∈ u_ws RX5 TX5 2, w ∈ LT := by
  intro w hw
  obtain ⟨k, hk, rfl⟩ := List.mem_map.mp hw
  rw [List.mem_range] at hk
  match k, hk with
  | 0, _ => exact lay_X5_0
  | 1, _ => exact lay_X5_1
  | k + 2, hk => exact absurd hk (by omega)
theorem inst_X5 : Cond.instantiable RX5 2 ∈ LT := LT_in 89 (by decide +kernel) rfl
theorem lay_X6_0 : u_lay RX6 TX6 0 ∈ LT := LT_in 134 (by decide +kernel) rfl
theorem lay_X6_1 : u_lay RX6 TX6 1 ∈ LT := LT_in 136 (by decide +kernel) rfl
theorem lay_X6_2 : u_lay RX6 TX6 2 ∈ LT := LT_in 138 (by decide +kernel) rfl
theorem lay_X6_3 : u_lay RX6 TX6 3 ∈ LT := LT_in 140 (by decide +kernel) rfl
theorem lay_X6_4 : u_lay RX6 TX6 4 ∈ LT := LT_in 142 (by decide +kernel) rfl
theorem lay_X6_5 : u_lay RX6 TX6 5 ∈ LT := LT_in 144 (by decide +kernel) rfl
theorem lay_X6_6 : u_lay RX6 TX6 6 ∈ LT := LT_in 146 (by decide +kernel) rfl
theorem lay_X6_7 : u_lay RX6 TX6 7 ∈ LT := LT_in 148 (by decide +kernel) rfl
theorem in_X6 : ∀ w ∈ u_ws RX6 TX6 8, w ∈ LT := by
  intro w hw
  obtain ⟨k, hk, rfl⟩ := List.mem_map.mp hw
  rw [List.mem_range] at hk
  match k, hk with
  | 0, _ => exact lay_X6_0
  | 1, _ => exact lay_X6_1
  | 2, _ => exact lay_X6_2
  | 3, _ => exact lay_X6_3
  | 4, _ => exact lay_X6_4
  | 5, _ => exact lay_X6_5
  | 6, _ => exact lay_X6_6
  | 7, _ => exact lay_X6_7
  | k + 8, hk => exact absurd hk (by omega)
theorem inst_X6 : Cond.instantiable RX6 8 ∈ LT := LT_in 109 (by decide +kernel) rfl
theorem lay_X7_0 : u_lay RX7 TX7 0 ∈ LT := LT_in 280 (by decide +kernel) rfl
theorem lay_X7_1 : u_lay RX7 TX7 1 ∈ LT := LT_in 282 (by decide +kernel) rfl
theorem lay_X7_2 : u_lay RX7 TX7 2 ∈ LT := LT_in 284 (by decide +kernel) rfl
theorem in_X7 : ∀ w ∈ u_ws RX7 TX7 3, w ∈ LT := by
  intro w hw
  obtain ⟨k, hk, rfl⟩ := List.mem_map.mp hw
  rw [List.mem_range] at hk
  match k, hk with
  | 0, _ => exact lay_X7_0
  | 1, _ => exact lay_X7_1
  | 2, _ => exact lay_X7_2
  | k + 3, hk => exact absurd hk (by omega)
theorem inst_X7 : Cond.instantiable RX7 3 ∈ LT := LT_in 271 (by decide +kernel) rfl
theorem lay_X8_0 : u_lay RX8 TX8 0 ∈ LT := LT_in 349 (by decide +kernel) rfl
theorem lay_X8_1 : u_lay RX8 TX8 1 ∈ LT := LT_in 351 (by decide +kernel) rfl
theorem lay_X8_2 : u_lay RX8 TX8 2 ∈ LT := LT_in 353 (by decide +kernel) rfl
theorem lay_X8_3 : u_lay RX8 TX8 3 ∈ LT := LT_in 355 (by decide +kernel) rfl
theorem lay_X8_4 : u_lay RX8 TX8 4 ∈ LT := LT_in 357 (by decide +kernel) rfl
theorem lay_X8_5 : u_lay RX8 TX8 5 ∈ LT := LT_in 359 (by decide +kernel) rfl
theorem lay_X8_6 : u_lay RX8 TX8 6 ∈ LT := LT_in 361 (by decide +kernel) rfl
theorem lay_X8_7 : u_lay RX8 TX8 7 ∈ LT := LT_in 363 (by decide +kernel) rfl
theorem lay_X8_8 : u_lay RX8 TX8 8 ∈ LT := LT_in 365 (by decide +kernel) rfl
theorem in_X8 : ∀ w ∈ u_ws RX8 TX8 9, w ∈ LT := by
  intro w hw
  obtain ⟨k, hk, rfl⟩ := List.mem_map.mp hw
  rw [List.mem_range] at hk
  match k, hk with
  | 0, _ => exact lay_X8_0
  | 1, _ => exact lay_X8_1
  | 2, _ => exact lay_X8_2
  | 3, _ => exact lay_X8_3
  | 4, _ => exact lay_X8_4
  | 5, _ => exact lay_X8_5
  | 6, _ => exact lay_X8_6
  | 7, _ => exact lay_X8_7
  | 8, _ => exact lay_X8_8
  | k + 9, hk => exact absurd hk (by omega)
theorem inst_X8 : Cond.instantiable RX8 9 ∈ LT := LT_in 308 (by decide +kernel) rfl
theorem lay_X9_0 : u_lay RX9 TX9 0 ∈ LT := LT_in 203 (by decide +kernel) rfl
theorem lay_X9_1 : u_lay RX9 TX9 1 ∈ LT := LT_in 205 (by decide +kernel) rfl
theorem lay_X9_2 : u_lay RX9 TX9 2 ∈ LT := LT_in 207 (by decide +kernel) rfl
theorem lay_X9_3 : u_lay RX9 TX9 3 ∈ LT := LT_in 209 (by decide +kernel) rfl
theorem lay_X9_4 : u_lay RX9 TX9 4 ∈ LT := LT_in 211 (by decide +kernel) rfl
theorem lay_X9_5 : u_lay RX9 TX9 5 ∈ LT := LT_in 213 (by decide +kernel) rfl
theorem lay_X9_6 : u_lay RX9 TX9 6 ∈ LT := LT_in 215 (by decide +kernel) rfl
theorem lay_X9_7 : u_lay RX9 TX9 7 ∈ LT := LT_in 217 (by decide +kernel) rfl
theorem in_X9 : ∀ w ∈ u_ws RX9 TX9 8, w ∈ LT := by
  intro w hw
  obtain ⟨k, hk, rfl⟩ := List.mem_map.mp hw
  rw [List.mem_range] at hk
  match k, hk with
  | 0, _ => exact lay_X9_0
  | 1, _ => exact lay_X9_1
  | 2, _ => exact lay_X9_2
  | 3, _ => exact lay_X9_3
  | 4, _ => exact lay_X9_4
  | 5, _ => exact lay_X9_5
  | 6, _ => exact lay_X9_6
  | 7, _ => exact lay_X9_7
  | k + 8, hk => exact absurd hk (by omega)
theorem inst_X9 : Cond.instantiable RX9 8 ∈ LT := LT_in 182 (by decide +kernel) rfl
theorem lay_X10_0 : u_lay RX10 TX10 0 ∈ LT := LT_in 495 (by decide +kernel) rfl
theorem lay_X10_1 : u_lay RX10 TX10 1 ∈ LT := LT_in 497 (by decide +kernel) rfl
theorem lay_X10_2 : u_lay RX10 TX10 2 ∈ LT := LT_in 499 (by decide +kernel) rfl
theorem lay_X10_3 : u_lay RX10 TX10 3 ∈ LT := LT_in 501 (by decide +kernel) rfl
theorem lay_X10_4 : u_lay RX10 TX10 4 ∈ LT := LT_in 503 (by decide +kernel) rfl
theorem lay_X10_5 : u_lay RX10 TX10 5 ∈ LT := LT_in 505 (by decide +kernel) rfl
theorem lay_X10_6 : u_lay RX10 TX10 6 ∈ LT := LT_in 507 (by decide +kernel) rfl
theorem lay_X10_7 : u_lay RX10 TX10 7 ∈ LT := LT_in 509 (by decide +kernel) rfl
theorem lay_X10_8 : u_lay RX10 TX10 8 ∈ LT := LT_in 511 (by decide +kernel) rfl
theorem lay_X10_9 : u_lay RX10 TX10 9 ∈ LT := LT_in 513 (by decide +kernel) rfl
theorem lay_X10_10 : u_lay RX10 TX10 10 ∈ LT := LT_in 515 (by decide +kernel) rfl
theorem lay_X10_11 : u_lay RX10 TX10 11 ∈ LT := LT_in 517 (by decide +kernel) rfl
theorem in_X10 : ∀ w ∈ u_ws RX10 TX10 12, w ∈ LT := by
  intro w hw
  obtain ⟨k, hk, rfl⟩ := List.mem_map.mp hw
  rw [List.mem_range] at hk
  match k, hk with
  | 0, _ => exact lay_X10_0
  | 1, _ => exact lay_X10_1
  | 2, _ => exact lay_X10_2
  | 3, _ => exact lay_X10_3
  | 4, _ => exact lay_X10_4
  | 5, _ => exact lay_X10_5
  | 6, _ => exact lay_X10_6
  | 7, _ => exact lay_X10_7
  | 8, _ => exact lay_X10_8
  | 9, _ => exact lay_X10_9
  | 10, _ => exact lay_X10_10
  | 11, _ => exact lay_X10_11
  | k + 12, hk => exact absurd hk (by omega)
theorem inst_X10 : Cond.instantiable RX10 12 ∈ LT := LT_in 65 (by decide +kernel) rfl
theorem lay_X11_0 : u_lay RX11 TX11 0 ∈ LT := LT_in 917 (by decide +kernel) rfl
theorem lay_X11_1 : u_lay RX11 TX11 1 ∈ LT := LT_in 919 (by decide +kernel) rfl
theorem lay_X11_2 : u_lay RX11 TX11 2 ∈ LT := LT_in 921 (by decide +kernel) rfl
theorem lay_X11_3 : u_lay RX11 TX11 3 ∈ LT := LT_in 923 (by decide +kernel) rfl
theorem lay_X11_4 : u_lay RX11 TX11 4 ∈ LT := LT_in 925 (by decide +kernel) rfl
theorem lay_X11_5 : u_lay RX11 TX11 5 ∈ LT := LT_in 927 (by decide +kernel) rfl
theorem lay_X11_6 : u_lay RX11 TX11 6 ∈ LT := LT_in 929 (by decide +kernel) rfl
theorem lay_X11_7 : u_lay RX11 TX11 7 ∈ LT := LT_in 931 (by decide +kernel) rfl
theorem lay_X11_8 : u_lay RX11 TX11 8 ∈ LT := LT_in 933 (by decide +kernel) rfl
theorem lay_X11_9 : u_lay RX11 TX11 9 ∈ LT := LT_in 935 (by decide +kernel) rfl
theorem lay_X11_10 : u_lay RX11 TX11 10 ∈ LT := LT_in 937 (by decide +kernel) rfl
theorem lay_X11_11 : u_lay RX11 TX11 11 ∈ LT := LT_in 939 (by decide +kernel) rfl
theorem lay_X11_12 : u_lay RX11 TX11 12 ∈ LT := LT_in 941 (by decide +kernel) rfl
theorem lay_X11_13 : u_lay RX11 TX11 13 ∈ LT := LT_in 943 (by decide +kernel) rfl
theorem lay_X11_14 : u_lay RX11 TX11 14 ∈ LT := LT_in 945 (by decide +kernel) rfl
theorem lay_X11_15 : u_lay RX11 TX11 15 ∈ LT := LT_in 947 (by decide +kernel) rfl
theorem in_X11 : ∀ w ∈ u_ws RX11 TX11 16, w ∈ LT := by
  intro w hw
  obtain ⟨k, hk, rfl⟩ := List.mem_map.mp hw
  rw [List.mem_range] at hk
  match k, hk with
  | 0, _ => exact lay_X11_0
  | 1, _ => exact lay_X11_1
  | 2, _ => exact lay_X11_2
  | 3, _ => exact lay_X11_3
  | 4, _ => exact lay_X11_4
  | 5, _ => exact lay_X11_5
  | 6, _ => exact lay_X11_6
  | 7, _ => exact lay_X11_7
  | 8, _ => exact lay_X11_8
  | 9, _ => exact lay_X11_9
  | 10, _ => exact lay_X11_10
  | 11, _ => exact lay_X11_11
  | 12, _ => exact lay_X11_12
  | 13, _ => exact lay_X11_13
  | 14, _ => exact lay_X11_14
  | 15, _ => exact lay_X11_15
  | k + 16, hk => exact absurd hk (by omega)
theorem inst_X11 : Cond.instantiable RX11 16 ∈ LT := LT_in 880 (by decide +kernel) rfl
theorem ini_X0 : Cond.initialized RX0 ∈ LT := LT_in 48 (by decide +kernel) rfl
theorem ini_X1 : Cond.initialized RX1 ∈ LT := LT_in 54 (by decide +kernel) rfl
theorem ini_X2 : Cond.initialized RX2 ∈ LT := LT_in 46 (by decide +kernel) rfl
theorem ini_X3 : Cond.initialized RX3 ∈ LT := LT_in 52 (by decide +kernel) rfl
theorem ini_X4 : Cond.initialized RX4 ∈ LT := LT_in 51 (by decide +kernel) rfl
theorem ini_X5 : Cond.initialized RX5 ∈ LT := LT_in 47 (by decide +kernel) rfl
theorem ini_X6 : Cond.initialized RX6 ∈ LT := LT_in 49 (by decide +kernel) rfl
theorem ini_X7 : Cond.initialized RX7 ∈ LT := LT_in 53 (by decide +kernel) rfl
theorem ini_X8 : Cond.initialized RX8 ∈ LT := LT_in 55 (by decide +kernel) rfl
theorem ini_X9 : Cond.initialized RX9 ∈ LT := LT_in 50 (by decide +kernel) rfl
theorem ini_X10 : Cond.initialized RX10 ∈ LT := LT_in 45 (by decide +kernel) rfl
theorem ini_X11 : Cond.initialized RX11 ∈ LT := LT_in 60 (by decide +kernel) rfl
theorem ini_J6 : Cond.initialized RJ6 ∈ LT := LT_in 62 (by decide +kernel) rfl
theorem ini_J9 : Cond.initialized RJ9 ∈ LT := LT_in 61 (by decide +kernel) rfl
theorem ini_J0 : Cond.initialized RJ0 ∈ LT := LT_in 56 (by decide +kernel) rfl
theorem ini_J1 : Cond.initialized RJ1 ∈ LT := LT_in 57 (by decide +kernel) rfl
theorem ini_J2 : Cond.initialized RJ2 ∈ LT := LT_in 59 (by decide +kernel) rfl
theorem ini_J10 : Cond.initialized RJ10 ∈ LT := LT_in 63 (by decide +kernel) rfl
theorem ini_J3 : Cond.initialized RJ3 ∈ LT := LT_in 58 (by decide +kernel) rfl
theorem ini_L : Cond.initialized RL ∈ LT := LT_in 44 (by decide +kernel) rfl
theorem arr_int : Cond.arrayClass .int ∈ LT := LT_in 87 (by decide +kernel) rfl
theorem arr_boolean : Cond.arrayClass .boolean ∈ LT := LT_in 151 (by decide +kernel) rfl
theorem arr_byte : Cond.arrayClass .byte ∈ LT := LT_in 520 (by decide +kernel) rfl
set_option maxRecDepth 20000 in
theorem cw_X0_init : Cond.code M_X0_init.y M_X0_init.code M_X0_init.mL M_X0_init.ret ∈ LT := LT_in 105 (rfl) rfl
theorem im_X0_init : Cond.instanceMethod yX0_init ∈ LT := LT_in 104 (by decide +kernel) rfl
set_option maxRecDepth 20000 in
theorem cw_X0_begin : Cond.code M_X0_begin.y M_X0_begin.code M_X0_begin.mL M_X0_begin.ret ∈ LT := LT_in 474 (rfl) rfl
theorem im_X0_begin : Cond.instanceMethod yX0_begin ∈ LT := LT_in 472 (by decide +kernel) rfl
theorem se_X0_begin : Cond.selects RX0 yX0_begin yX0_begin ∈ LT := LT_in 473 (by decide +kernel) rfl
set_option maxRecDepth 20000 in
theorem cw_X0_upcoming : Cond.code M_X0_upcoming.y M_X0_upcoming.code M_X0_upcoming.mL M_X0_upcoming.ret ∈ LT := LT_in 585 (rfl) rfl
theorem im_X0_upcoming : Cond.instanceMethod yX0_upcoming ∈ LT := LT_in 583 (by decide +kernel) rfl
theorem se_X0_upcoming : Cond.selects RX0 yX0_upcoming yX0_upcoming ∈ LT := LT_in 584 (by decide +kernel) rfl
set_option maxRecDepth 20000 in
theorem cw_X0_remembered : Cond.code M_X0_remembered.y M_X0_remembered.code M_X0_remembered.mL M_X0_remembered.ret ∈ LT := LT_in 673 (rfl) rfl
theorem im_X0_remembered : Cond.instanceMethod yX0_remembered ∈ LT := LT_in 671 (by decide +kernel) rfl
theorem se_X0_remembered : Cond.selects RX0 yX0_remembered yX0_remembered ∈ LT := LT_in 672 (by decide +kernel) rfl
set_option maxRecDepth 20000 in
theorem cw_X0_past : Cond.code M_X0_past.y M_X0_past.code M_X0_past.mL M_X0_past.ret ∈ LT := LT_in 677 (rfl) rfl
theorem im_X0_past : Cond.instanceMethod yX0_past ∈ LT := LT_in 675 (by decide +kernel) rfl
theorem se_X0_past : Cond.selects RX0 yX0_past yX0_past ∈ LT := LT_in 676 (by decide +kernel) rfl
set_option maxRecDepth 20000 in
theorem cw_X0_play : Cond.code M_X0_play.y M_X0_play.code M_X0_play.mL M_X0_play.ret ∈ LT := LT_in 600 (rfl) rfl
theorem im_X0_play : Cond.instanceMethod yX0_play ∈ LT := LT_in 598 (by decide +kernel) rfl
theorem se_X0_play : Cond.selects RX0 yX0_play yX0_play ∈ LT := LT_in 599 (by decide +kernel) rfl
set_option maxRecDepth 20000 in
theorem cw_X0_takeBack : Cond.code M_X0_takeBack.y M_X0_takeBack.code M_X0_takeBack.mL M_X0_takeBack.ret ∈ LT := LT_in 665 (rfl) rfl
theorem im_X0_takeBack : Cond.instanceMethod yX0_takeBack ∈ LT := LT_in 663 (by decide +kernel) rfl
theorem se_X0_takeBack : Cond.selects RX0 yX0_takeBack yX0_takeBack ∈ LT := LT_in 664 (by decide +kernel) rfl
set_option maxRecDepth 20000 in
theorem cw_X0_countLiars : Cond.code M_X0_countLiars.y M_X0_countLiars.code M_X0_countLiars.mL M_X0_countLiars.ret ∈ LT := LT_in 644 (rfl) rfl
theorem im_X0_countLiars : Cond.instanceMethod yX0_countLiars ∈ LT := LT_in 643 (by decide +kernel) rfl
theorem se_X0_countLiars : Cond.selects RX0 yX0_countLiars yX0_countLiars ∈ LT := LT_in 11 (by decide +kernel) rfl
set_option maxRecDepth 20000 in
theorem cw_X0_copy : Cond.code M_X0_copy.y M_X0_copy.code M_X0_copy.mL M_X0_copy.ret ∈ LT := LT_in 863 (rfl) rfl
theorem im_X0_copy : Cond.instanceMethod yX0_copy ∈ LT := LT_in 861 (by decide +kernel) rfl
theorem se_X0_copy : Cond.selects RX0 yX0_copy yX0_copy ∈ LT := LT_in 862 (by decide +kernel) rfl
set_option maxRecDepth 20000 in
theorem cw_X1_init : Cond.code M_X1_init.y M_X1_init.code M_X1_init.mL M_X1_init.ret ∈ LT := LT_in 291 (rfl) rfl
theorem im_X1_init : Cond.instanceMethod yX1_init ∈ LT := LT_in 290 (by decide +kernel) rfl
set_option maxRecDepth 20000 in
theorem cw_X1_hold : Cond.code M_X1_hold.y M_X1_hold.code M_X1_hold.mL M_X1_hold.ret ∈ LT := LT_in 843 (rfl) rfl
theorem im_X1_hold : Cond.instanceMethod yX1_hold ∈ LT := LT_in 841 (by decide +kernel) rfl
theorem se_X1_hold : Cond.selects RX1 yX1_hold yX1_hold ∈ LT := LT_in 842 (by decide +kernel) rfl
set_option maxRecDepth 20000 in
theorem cw_X1_drawn : Cond.code M_X1_drawn.y M_X1_drawn.code M_X1_drawn.mL M_X1_drawn.ret ∈ LT := LT_in 846 (rfl) rfl
theorem st_X1_drawn : Cond.static yX1_drawn ∈ LT := LT_in 845 (by decide +kernel) rfl
set_option maxRecDepth 20000 in
theorem cw_X2_init : Cond.code M_X2_init.y M_X2_init.code M_X2_init.mL M_X2_init.ret ∈ LT := LT_in 76 (rfl) rfl
theorem im_X2_init : Cond.instanceMethod yX2_init ∈ LT := LT_in 75 (by decide +kernel) rfl
set_option maxRecDepth 20000 in
theorem cw_X2_clear : Cond.code M_X2_clear.y M_X2_clear.code M_X2_clear.mL M_X2_clear.ret ∈ LT := LT_in 482 (rfl) rfl
theorem im_X2_clear : Cond.instanceMethod yX2_clear ∈ LT := LT_in 480 (by decide +kernel) rfl
theorem se_X2_clear : Cond.selects RX2 yX2_clear yX2_clear ∈ LT := LT_in 481 (by decide +kernel) rfl
set_option maxRecDepth 20000 in
theorem cw_X2_add : Cond.code M_X2_add.y M_X2_add.code M_X2_add.mL M_X2_add.ret ∈ LT := LT_in 420 (rfl) rfl
theorem im_X2_add : Cond.instanceMethod yX2_add ∈ LT := LT_in 418 (by decide +kernel) rfl
theorem se_X2_add : Cond.selects RX2 yX2_add yX2_add ∈ LT := LT_in 419 (by decide +kernel) rfl
set_option maxRecDepth 20000 in
theorem cw_X2_at : Cond.code M_X2_at.y M_X2_at.code M_X2_at.mL M_X2_at.ret ∈ LT := LT_in 432 (rfl) rfl
theorem im_X2_at : Cond.instanceMethod yX2_at ∈ LT := LT_in 430 (by decide +kernel) rfl
theorem se_X2_at : Cond.selects RX2 yX2_at yX2_at ∈ LT := LT_in 431 (by decide +kernel) rfl
set_option maxRecDepth 20000 in
theorem cw_X3_init : Cond.code M_X3_init.y M_X3_init.code M_X3_init.mL M_X3_init.ret ∈ LT := LT_in 242 (rfl) rfl
theorem im_X3_init : Cond.instanceMethod yX3_init ∈ LT := LT_in 241 (by decide +kernel) rfl
set_option maxRecDepth 20000 in
theorem cw_X3_between : Cond.code M_X3_between.y M_X3_between.code M_X3_between.mL M_X3_between.ret ∈ LT := LT_in 785 (rfl) rfl
theorem im_X3_between : Cond.instanceMethod yX3_between ∈ LT := LT_in 783 (by decide +kernel) rfl
theorem se_X3_between : Cond.selects RX3 yX3_between yX3_between ∈ LT := LT_in 784 (by decide +kernel) rfl
set_option maxRecDepth 20000 in
theorem cw_X3_weigh : Cond.code M_X3_weigh.y M_X3_weigh.code M_X3_weigh.mL M_X3_weigh.ret ∈ LT := LT_in 789 (rfl) rfl
theorem im_X3_weigh : Cond.instanceMethod yX3_weigh ∈ LT := LT_in 787 (by decide +kernel) rfl
theorem se_X3_weigh : Cond.selects RX3 yX3_weigh yX3_weigh ∈ LT := LT_in 788 (by decide +kernel) rfl
set_option maxRecDepth 20000 in
theorem cw_X3_tryWay : Cond.code M_X3_tryWay.y M_X3_tryWay.code M_X3_tryWay.mL M_X3_tryWay.ret ∈ LT := LT_in 793 (rfl) rfl
theorem im_X3_tryWay : Cond.instanceMethod yX3_tryWay ∈ LT := LT_in 792 (by decide +kernel) rfl
theorem se_X3_tryWay : Cond.selects RX3 yX3_tryWay yX3_tryWay ∈ LT := LT_in 17 (by decide +kernel) rfl
set_option maxRecDepth 20000 in
theorem cw_X3_lie : Cond.code M_X3_lie.y M_X3_lie.code M_X3_lie.mL M_X3_lie.ret ∈ LT := LT_in 798 (rfl) rfl
theorem im_X3_lie : Cond.instanceMethod yX3_lie ∈ LT := LT_in 797 (by decide +kernel) rfl
theorem se_X3_lie : Cond.selects RX3 yX3_lie yX3_lie ∈ LT := LT_in 18 (by decide +kernel) rfl
set_option maxRecDepth 20000 in
theorem cw_X3_gain : Cond.code M_X3_gain.y M_X3_gain.code M_X3_gain.mL M_X3_gain.ret ∈ LT := LT_in 805 (rfl) rfl
theorem im_X3_gain : Cond.instanceMethod yX3_gain ∈ LT := LT_in 804 (by decide +kernel) rfl
theorem se_X3_gain : Cond.selects RX3 yX3_gain yX3_gain ∈ LT := LT_in 19 (by decide +kernel) rfl
set_option maxRecDepth 20000 in
theorem cw_X4_init : Cond.code M_X4_init.y M_X4_init.code M_X4_init.mL M_X4_init.ret ∈ LT := LT_in 224 (rfl) rfl
theorem im_X4_init : Cond.instanceMethod yX4_init ∈ LT := LT_in 223 (by decide +kernel) rfl
set_option maxRecDepth 20000 in
theorem cw_X4_begin : Cond.code M_X4_begin.y M_X4_begin.code M_X4_begin.mL M_X4_begin.ret ∈ LT := LT_in 735 (rfl) rfl
theorem im_X4_begin : Cond.instanceMethod yX4_begin ∈ LT := LT_in 733 (by decide +kernel) rfl
theorem se_X4_begin : Cond.selects RX4 yX4_begin yX4_begin ∈ LT := LT_in 734 (by decide +kernel) rfl
set_option maxRecDepth 20000 in
theorem cw_X4_costOf : Cond.code M_X4_costOf.y M_X4_costOf.code M_X4_costOf.mL M_X4_costOf.ret ∈ LT := LT_in 761 (rfl) rfl
theorem im_X4_costOf : Cond.instanceMethod yX4_costOf ∈ LT := LT_in 759 (by decide +kernel) rfl
theorem se_X4_costOf : Cond.selects RX4 yX4_costOf yX4_costOf ∈ LT := LT_in 760 (by decide +kernel) rfl
set_option maxRecDepth 20000 in
theorem cw_X4_goOneRound : Cond.code M_X4_goOneRound.y M_X4_goOneRound.code M_X4_goOneRound.mL M_X4_goOneRound.ret ∈ LT := LT_in 739 (rfl) rfl
theorem im_X4_goOneRound : Cond.instanceMethod yX4_goOneRound ∈ LT := LT_in 737 (by decide +kernel) rfl
theorem se_X4_goOneRound : Cond.selects RX4 yX4_goOneRound yX4_goOneRound ∈ LT := LT_in 738 (by decide +kernel) rfl
set_option maxRecDepth 20000 in
theorem cw_X4_hear : Cond.code M_X4_hear.y M_X4_hear.code M_X4_hear.mL M_X4_hear.ret ∈ LT := LT_in 756 (rfl) rfl
theorem im_X4_hear : Cond.instanceMethod yX4_hear ∈ LT := LT_in 755 (by decide +kernel) rfl
theorem se_X4_hear : Cond.selects RX4 yX4_hear yX4_hear ∈ LT := LT_in 16 (by decide +kernel) rfl
set_option maxRecDepth 20000 in
theorem cw_X4_spread : Cond.code M_X4_spread.y M_X4_spread.code M_X4_spread.mL M_X4_spread.ret ∈ LT := LT_in 744 (rfl) rfl
theorem im_X4_spread : Cond.instanceMethod yX4_spread ∈ LT := LT_in 743 (by decide +kernel) rfl
theorem se_X4_spread : Cond.selects RX4 yX4_spread yX4_spread ∈ LT := LT_in 15 (by decide +kernel) rfl
set_option maxRecDepth 20000 in
theorem cw_X5_init : Cond.code M_X5_init.y M_X5_init.code M_X5_init.mL M_X5_init.ret ∈ LT := LT_in 92 (rfl) rfl
theorem im_X5_init : Cond.instanceMethod yX5_init ∈ LT := LT_in 91 (by decide +kernel) rfl
set_option maxRecDepth 20000 in
theorem cw_X5_read : Cond.code M_X5_read.y M_X5_read.code M_X5_read.mL M_X5_read.ret ∈ LT := LT_in 424 (rfl) rfl
theorem im_X5_read : Cond.instanceMethod yX5_read ∈ LT := LT_in 422 (by decide +kernel) rfl
theorem se_X5_read : Cond.selects RX5 yX5_read yX5_read ∈ LT := LT_in 423 (by decide +kernel) rfl
set_option maxRecDepth 20000 in
theorem cw_X5_howMany : Cond.code M_X5_howMany.y M_X5_howMany.code M_X5_howMany.mL M_X5_howMany.ret ∈ LT := LT_in 435 (rfl) rfl
theorem st_X5_howMany : Cond.static yX5_howMany ∈ LT := LT_in 434 (by decide +kernel) rfl
set_option maxRecDepth 20000 in
theorem cw_X5_readNumbers : Cond.code M_X5_readNumbers.y M_X5_readNumbers.code M_X5_readNumbers.mL M_X5_readNumbers.ret ∈ LT := LT_in 439 (rfl) rfl
theorem im_X5_readNumbers : Cond.instanceMethod yX5_readNumbers ∈ LT := LT_in 438 (by decide +kernel) rfl
theorem se_X5_readNumbers : Cond.selects RX5 yX5_readNumbers yX5_readNumbers ∈ LT := LT_in 0 (by decide +kernel) rfl
set_option maxRecDepth 20000 in
theorem cw_X5_readNumber : Cond.code M_X5_readNumber.y M_X5_readNumber.code M_X5_readNumber.mL M_X5_readNumber.ret ∈ LT := LT_in 443 (rfl) rfl
theorem im_X5_readNumber : Cond.instanceMethod yX5_readNumber ∈ LT := LT_in 442 (by decide +kernel) rfl
theorem se_X5_readNumber : Cond.selects RX5 yX5_readNumber yX5_readNumber ∈ LT := LT_in 1 (by decide +kernel) rfl
set_option maxRecDepth 20000 in
theorem cw_X5_isFigure : Cond.code M_X5_isFigure.y M_X5_isFigure.code M_X5_isFigure.mL M_X5_isFigure.ret ∈ LT := LT_in 446 (rfl) rfl
theorem st_X5_isFigure : Cond.static yX5_isFigure ∈ LT := LT_in 445 (by decide +kernel) rfl
set_option maxRecDepth 20000 in
theorem cw_X6_init : Cond.code M_X6_init.y M_X6_init.code M_X6_init.mL M_X6_init.ret ∈ LT := LT_in 112 (rfl) rfl
theorem im_X6_init : Cond.instanceMethod yX6_init ∈ LT := LT_in 111 (by decide +kernel) rfl
set_option maxRecDepth 20000 in
theorem cw_X6_clear : Cond.code M_X6_clear.y M_X6_clear.code M_X6_clear.mL M_X6_clear.ret ∈ LT := LT_in 592 (rfl) rfl
theorem im_X6_clear : Cond.instanceMethod yX6_clear ∈ LT := LT_in 590 (by decide +kernel) rfl
theorem se_X6_clear : Cond.selects RX6 yX6_clear yX6_clear ∈ LT := LT_in 591 (by decide +kernel) rfl
set_option maxRecDepth 20000 in
theorem cw_X6_add : Cond.code M_X6_add.y M_X6_add.code M_X6_add.mL M_X6_add.ret ∈ LT := LT_in 596 (rfl) rfl
theorem im_X6_add : Cond.instanceMethod yX6_add ∈ LT := LT_in 594 (by decide +kernel) rfl
theorem se_X6_add : Cond.selects RX6 yX6_add yX6_add ∈ LT := LT_in 595 (by decide +kernel) rfl
set_option maxRecDepth 20000 in
theorem cw_X6_isSpeaker : Cond.code M_X6_isSpeaker.y M_X6_isSpeaker.code M_X6_isSpeaker.mL M_X6_isSpeaker.ret ∈ LT := LT_in 623 (rfl) rfl
theorem im_X6_isSpeaker : Cond.instanceMethod yX6_isSpeaker ∈ LT := LT_in 621 (by decide +kernel) rfl
theorem se_X6_isSpeaker : Cond.selects RX6 yX6_isSpeaker yX6_isSpeaker ∈ LT := LT_in 622 (by decide +kernel) rfl
set_option maxRecDepth 20000 in
theorem cw_X6_isUntruth : Cond.code M_X6_isUntruth.y M_X6_isUntruth.code M_X6_isUntruth.mL M_X6_isUntruth.ret ∈ LT := LT_in 613 (rfl) rfl
theorem im_X6_isUntruth : Cond.instanceMethod yX6_isUntruth ∈ LT := LT_in 611 (by decide +kernel) rfl
theorem se_X6_isUntruth : Cond.selects RX6 yX6_isUntruth yX6_isUntruth ∈ LT := LT_in 612 (by decide +kernel) rfl
set_option maxRecDepth 20000 in
theorem cw_X6_tally : Cond.code M_X6_tally.y M_X6_tally.code M_X6_tally.mL M_X6_tally.ret ∈ LT := LT_in 609 (rfl) rfl
theorem im_X6_tally : Cond.instanceMethod yX6_tally ∈ LT := LT_in 607 (by decide +kernel) rfl
theorem se_X6_tally : Cond.selects RX6 yX6_tally yX6_tally ∈ LT := LT_in 608 (by decide +kernel) rfl
set_option maxRecDepth 20000 in
theorem cw_X6_copy : Cond.code M_X6_copy.y M_X6_copy.code M_X6_copy.mL M_X6_copy.ret ∈ LT := LT_in 870 (rfl) rfl
theorem im_X6_copy : Cond.instanceMethod yX6_copy ∈ LT := LT_in 868 (by decide +kernel) rfl
theorem se_X6_copy : Cond.selects RX6 yX6_copy yX6_copy ∈ LT := LT_in 869 (by decide +kernel) rfl
set_option maxRecDepth 20000 in
theorem cw_X7_init : Cond.code M_X7_init.y M_X7_init.code M_X7_init.mL M_X7_init.ret ∈ LT := LT_in 274 (rfl) rfl
theorem im_X7_init : Cond.instanceMethod yX7_init ∈ LT := LT_in 273 (by decide +kernel) rfl
set_option maxRecDepth 20000 in
theorem cw_X7_clear : Cond.code M_X7_clear.y M_X7_clear.code M_X7_clear.mL M_X7_clear.ret ∈ LT := LT_in 478 (rfl) rfl
theorem im_X7_clear : Cond.instanceMethod yX7_clear ∈ LT := LT_in 476 (by decide +kernel) rfl
theorem se_X7_clear : Cond.selects RX7 yX7_clear yX7_clear ∈ LT := LT_in 477 (by decide +kernel) rfl
set_option maxRecDepth 20000 in
theorem cw_X7_add : Cond.code M_X7_add.y M_X7_add.code M_X7_add.mL M_X7_add.ret ∈ LT := LT_in 814 (rfl) rfl
theorem im_X7_add : Cond.instanceMethod yX7_add ∈ LT := LT_in 812 (by decide +kernel) rfl
theorem se_X7_add : Cond.selects RX7 yX7_add yX7_add ∈ LT := LT_in 813 (by decide +kernel) rfl
set_option maxRecDepth 20000 in
theorem cw_X7_chance : Cond.code M_X7_chance.y M_X7_chance.code M_X7_chance.mL M_X7_chance.ret ∈ LT := LT_in 827 (rfl) rfl
theorem im_X7_chance : Cond.instanceMethod yX7_chance ∈ LT := LT_in 825 (by decide +kernel) rfl
theorem se_X7_chance : Cond.selects RX7 yX7_chance yX7_chance ∈ LT := LT_in 826 (by decide +kernel) rfl
set_option maxRecDepth 20000 in
theorem cw_X7_commonDivisor : Cond.code M_X7_commonDivisor.y M_X7_commonDivisor.code M_X7_commonDivisor.mL M_X7_commonDivisor.ret ∈ LT := LT_in 830 (rfl) rfl
theorem st_X7_commonDivisor : Cond.static yX7_commonDivisor ∈ LT := LT_in 829 (by decide +kernel) rfl
set_option maxRecDepth 20000 in
theorem cw_X8_init : Cond.code M_X8_init.y M_X8_init.code M_X8_init.mL M_X8_init.ret ∈ LT := LT_in 311 (rfl) rfl
theorem im_X8_init : Cond.instanceMethod yX8_init ∈ LT := LT_in 310 (by decide +kernel) rfl
set_option maxRecDepth 20000 in
theorem cw_X8_clear : Cond.code M_X8_clear.y M_X8_clear.code M_X8_clear.mL M_X8_clear.ret ∈ LT := LT_in 428 (rfl) rfl
theorem im_X8_clear : Cond.instanceMethod yX8_clear ∈ LT := LT_in 426 (by decide +kernel) rfl
theorem se_X8_clear : Cond.selects RX8 yX8_clear yX8_clear ∈ LT := LT_in 427 (by decide +kernel) rfl
set_option maxRecDepth 20000 in
theorem cw_X8_take : Cond.code M_X8_take.y M_X8_take.code M_X8_take.mL M_X8_take.ret ∈ LT := LT_in 450 (rfl) rfl
theorem im_X8_take : Cond.instanceMethod yX8_take ∈ LT := LT_in 448 (by decide +kernel) rfl
theorem se_X8_take : Cond.selects RX8 yX8_take yX8_take ∈ LT := LT_in 449 (by decide +kernel) rfl
set_option maxRecDepth 20000 in
theorem cw_X8_takeGuest : Cond.code M_X8_takeGuest.y M_X8_takeGuest.code M_X8_takeGuest.mL M_X8_takeGuest.ret ∈ LT := LT_in 454 (rfl) rfl
theorem im_X8_takeGuest : Cond.instanceMethod yX8_takeGuest ∈ LT := LT_in 453 (by decide +kernel) rfl
theorem se_X8_takeGuest : Cond.selects RX8 yX8_takeGuest yX8_takeGuest ∈ LT := LT_in 2 (by decide +kernel) rfl
set_option maxRecDepth 20000 in
theorem cw_X8_takeThing : Cond.code M_X8_takeThing.y M_X8_takeThing.code M_X8_takeThing.mL M_X8_takeThing.ret ∈ LT := LT_in 458 (rfl) rfl
theorem im_X8_takeThing : Cond.instanceMethod yX8_takeThing ∈ LT := LT_in 457 (by decide +kernel) rfl
theorem se_X8_takeThing : Cond.selects RX8 yX8_takeThing yX8_takeThing ∈ LT := LT_in 3 (by decide +kernel) rfl
set_option maxRecDepth 20000 in
theorem cw_X8_takeLaw : Cond.code M_X8_takeLaw.y M_X8_takeLaw.code M_X8_takeLaw.mL M_X8_takeLaw.ret ∈ LT := LT_in 462 (rfl) rfl
theorem im_X8_takeLaw : Cond.instanceMethod yX8_takeLaw ∈ LT := LT_in 461 (by decide +kernel) rfl
theorem se_X8_takeLaw : Cond.selects RX8 yX8_takeLaw yX8_takeLaw ∈ LT := LT_in 4 (by decide +kernel) rfl
set_option maxRecDepth 20000 in
theorem cw_X8_takeStart : Cond.code M_X8_takeStart.y M_X8_takeStart.code M_X8_takeStart.mL M_X8_takeStart.ret ∈ LT := LT_in 466 (rfl) rfl
theorem im_X8_takeStart : Cond.instanceMethod yX8_takeStart ∈ LT := LT_in 465 (by decide +kernel) rfl
theorem se_X8_takeStart : Cond.selects RX8 yX8_takeStart yX8_takeStart ∈ LT := LT_in 5 (by decide +kernel) rfl
set_option maxRecDepth 20000 in
theorem cw_X8_canBeLaid : Cond.code M_X8_canBeLaid.y M_X8_canBeLaid.code M_X8_canBeLaid.mL M_X8_canBeLaid.ret ∈ LT := LT_in 540 (rfl) rfl
theorem im_X8_canBeLaid : Cond.instanceMethod yX8_canBeLaid ∈ LT := LT_in 538 (by decide +kernel) rfl
theorem se_X8_canBeLaid : Cond.selects RX8 yX8_canBeLaid yX8_canBeLaid ∈ LT := LT_in 539 (by decide +kernel) rfl
set_option maxRecDepth 20000 in
theorem cw_X8_hasGuest : Cond.code M_X8_hasGuest.y M_X8_hasGuest.code M_X8_hasGuest.mL M_X8_hasGuest.ret ∈ LT := LT_in 548 (rfl) rfl
theorem im_X8_hasGuest : Cond.instanceMethod yX8_hasGuest ∈ LT := LT_in 546 (by decide +kernel) rfl
theorem se_X8_hasGuest : Cond.selects RX8 yX8_hasGuest yX8_hasGuest ∈ LT := LT_in 547 (by decide +kernel) rfl
set_option maxRecDepth 20000 in
theorem cw_X8_hasThing : Cond.code M_X8_hasThing.y M_X8_hasThing.code M_X8_hasThing.mL M_X8_hasThing.ret ∈ LT := LT_in 566 (rfl) rfl
theorem im_X8_hasThing : Cond.instanceMethod yX8_hasThing ∈ LT := LT_in 564 (by decide +kernel) rfl
theorem se_X8_hasThing : Cond.selects RX8 yX8_hasThing yX8_hasThing ∈ LT := LT_in 565 (by decide +kernel) rfl
set_option maxRecDepth 20000 in
theorem cw_X8_allThings : Cond.code M_X8_allThings.y M_X8_allThings.code M_X8_allThings.mL M_X8_allThings.ret ∈ LT := LT_in 689 (rfl) rfl
theorem im_X8_allThings : Cond.instanceMethod yX8_allThings ∈ LT := LT_in 687 (by decide +kernel) rfl
theorem se_X8_allThings : Cond.selects RX8 yX8_allThings yX8_allThings ∈ LT := LT_in 688 (by decide +kernel) rfl
set_option maxRecDepth 20000 in
theorem cw_X8_isSo : Cond.code M_X8_isSo.y M_X8_isSo.code M_X8_isSo.mL M_X8_isSo.ret ∈ LT := LT_in 569 (rfl) rfl
theorem st_X8_isSo : Cond.static yX8_isSo ∈ LT := LT_in 568 (by decide +kernel) rfl
set_option maxRecDepth 20000 in
theorem cw_X8_knows : Cond.code M_X8_knows.y M_X8_knows.code M_X8_knows.mL M_X8_knows.ret ∈ LT := LT_in 751 (rfl) rfl
theorem im_X8_knows : Cond.instanceMethod yX8_knows ∈ LT := LT_in 749 (by decide +kernel) rfl
theorem se_X8_knows : Cond.selects RX8 yX8_knows yX8_knows ∈ LT := LT_in 750 (by decide +kernel) rfl
set_option maxRecDepth 20000 in
theorem cw_X8_knownBy : Cond.code M_X8_knownBy.y M_X8_knownBy.code M_X8_knownBy.mL M_X8_knownBy.ret ∈ LT := LT_in 769 (rfl) rfl
theorem im_X8_knownBy : Cond.instanceMethod yX8_knownBy ∈ LT := LT_in 767 (by decide +kernel) rfl
theorem se_X8_knownBy : Cond.selects RX8 yX8_knownBy yX8_knownBy ∈ LT := LT_in 768 (by decide +kernel) rfl
set_option maxRecDepth 20000 in
theorem cw_X8_tally : Cond.code M_X8_tally.y M_X8_tally.code M_X8_tally.mL M_X8_tally.ret ∈ LT := LT_in 577 (rfl) rfl
theorem im_X8_tally : Cond.instanceMethod yX8_tally ∈ LT := LT_in 575 (by decide +kernel) rfl
theorem se_X8_tally : Cond.selects RX8 yX8_tally yX8_tally ∈ LT := LT_in 576 (by decide +kernel) rfl
set_option maxRecDepth 20000 in
theorem cw_X8_remainder : Cond.code M_X8_remainder.y M_X8_remainder.code M_X8_remainder.mL M_X8_remainder.ret ∈ LT := LT_in 634 (rfl) rfl
theorem st_X8_remainder : Cond.static yX8_remainder ∈ LT := LT_in 633 (by decide +kernel) rfl
set_option maxRecDepth 20000 in
theorem cw_X8_upward : Cond.code M_X8_upward.y M_X8_upward.code M_X8_upward.mL M_X8_upward.ret ∈ LT := LT_in 631 (rfl) rfl
theorem im_X8_upward : Cond.instanceMethod yX8_upward ∈ LT := LT_in 630 (by decide +kernel) rfl
theorem se_X8_upward : Cond.selects RX8 yX8_upward yX8_upward ∈ LT := LT_in 9 (by decide +kernel) rfl
set_option maxRecDepth 20000 in
theorem cw_X8_apart : Cond.code M_X8_apart.y M_X8_apart.code M_X8_apart.mL M_X8_apart.ret ∈ LT := LT_in 552 (rfl) rfl
theorem im_X8_apart : Cond.instanceMethod yX8_apart ∈ LT := LT_in 550 (by decide +kernel) rfl
theorem se_X8_apart : Cond.selects RX8 yX8_apart yX8_apart ∈ LT := LT_in 551 (by decide +kernel) rfl
set_option maxRecDepth 20000 in
theorem cw_X8_shorterWay : Cond.code M_X8_shorterWay.y M_X8_shorterWay.code M_X8_shorterWay.mL M_X8_shorterWay.ret ∈ LT := LT_in 627 (rfl) rfl
theorem im_X8_shorterWay : Cond.instanceMethod yX8_shorterWay ∈ LT := LT_in 626 (by decide +kernel) rfl
theorem se_X8_shorterWay : Cond.selects RX8 yX8_shorterWay yX8_shorterWay ∈ LT := LT_in 8 (by decide +kernel) rfl
set_option maxRecDepth 20000 in
theorem cw_X8_landing : Cond.code M_X8_landing.y M_X8_landing.code M_X8_landing.mL M_X8_landing.ret ∈ LT := LT_in 605 (rfl) rfl
theorem im_X8_landing : Cond.instanceMethod yX8_landing ∈ LT := LT_in 603 (by decide +kernel) rfl
theorem se_X8_landing : Cond.selects RX8 yX8_landing yX8_landing ∈ LT := LT_in 604 (by decide +kernel) rfl
set_option maxRecDepth 20000 in
theorem cw_X8_pulled : Cond.code M_X8_pulled.y M_X8_pulled.code M_X8_pulled.mL M_X8_pulled.ret ∈ LT := LT_in 639 (rfl) rfl
theorem im_X8_pulled : Cond.instanceMethod yX8_pulled ∈ LT := LT_in 638 (by decide +kernel) rfl
theorem se_X8_pulled : Cond.selects RX8 yX8_pulled yX8_pulled ∈ LT := LT_in 10 (by decide +kernel) rfl
set_option maxRecDepth 20000 in
theorem cw_X8_towardDeaf : Cond.code M_X8_towardDeaf.y M_X8_towardDeaf.code M_X8_towardDeaf.mL M_X8_towardDeaf.ret ∈ LT := LT_in 618 (rfl) rfl
theorem im_X8_towardDeaf : Cond.instanceMethod yX8_towardDeaf ∈ LT := LT_in 617 (by decide +kernel) rfl
theorem se_X8_towardDeaf : Cond.selects RX8 yX8_towardDeaf yX8_towardDeaf ∈ LT := LT_in 7 (by decide +kernel) rfl
set_option maxRecDepth 20000 in
theorem cw_X9_init : Cond.code M_X9_init.y M_X9_init.code M_X9_init.mL M_X9_init.ret ∈ LT := LT_in 185 (rfl) rfl
theorem im_X9_init : Cond.instanceMethod yX9_init ∈ LT := LT_in 184 (by decide +kernel) rfl
set_option maxRecDepth 20000 in
theorem cw_X9_sift : Cond.code M_X9_sift.y M_X9_sift.code M_X9_sift.mL M_X9_sift.ret ∈ LT := LT_in 685 (rfl) rfl
theorem im_X9_sift : Cond.instanceMethod yX9_sift ∈ LT := LT_in 683 (by decide +kernel) rfl
theorem se_X9_sift : Cond.selects RX9 yX9_sift yX9_sift ∈ LT := LT_in 684 (by decide +kernel) rfl
set_option maxRecDepth 20000 in
theorem cw_X9_admit : Cond.code M_X9_admit.y M_X9_admit.code M_X9_admit.mL M_X9_admit.ret ∈ LT := LT_in 699 (rfl) rfl
theorem im_X9_admit : Cond.instanceMethod yX9_admit ∈ LT := LT_in 698 (by decide +kernel) rfl
theorem se_X9_admit : Cond.selects RX9 yX9_admit yX9_admit ∈ LT := LT_in 13 (by decide +kernel) rfl
set_option maxRecDepth 20000 in
theorem cw_X9_explains : Cond.code M_X9_explains.y M_X9_explains.code M_X9_explains.mL M_X9_explains.ret ∈ LT := LT_in 692 (rfl) rfl
theorem st_X9_explains : Cond.static yX9_explains ∈ LT := LT_in 691 (by decide +kernel) rfl
set_option maxRecDepth 20000 in
theorem cw_X9_possibleLaws : Cond.code M_X9_possibleLaws.y M_X9_possibleLaws.code M_X9_possibleLaws.mL M_X9_possibleLaws.ret ∈ LT := LT_in 710 (rfl) rfl
theorem st_X9_possibleLaws : Cond.static yX9_possibleLaws ∈ LT := LT_in 709 (by decide +kernel) rfl
set_option maxRecDepth 20000 in
theorem cw_X9_findQuestion : Cond.code M_X9_findQuestion.y M_X9_findQuestion.code M_X9_findQuestion.mL M_X9_findQuestion.ret ∈ LT := LT_in 718 (rfl) rfl
theorem im_X9_findQuestion : Cond.instanceMethod yX9_findQuestion ∈ LT := LT_in 716 (by decide +kernel) rfl
theorem se_X9_findQuestion : Cond.selects RX9 yX9_findQuestion yX9_findQuestion ∈ LT := LT_in 717 (by decide +kernel) rfl
set_option maxRecDepth 20000 in
theorem cw_X9_mostAlike : Cond.code M_X9_mostAlike.y M_X9_mostAlike.code M_X9_mostAlike.mL M_X9_mostAlike.ret ∈ LT := LT_in 722 (rfl) rfl
theorem im_X9_mostAlike : Cond.instanceMethod yX9_mostAlike ∈ LT := LT_in 721 (by decide +kernel) rfl
theorem se_X9_mostAlike : Cond.selects RX9 yX9_mostAlike yX9_mostAlike ∈ LT := LT_in 14 (by decide +kernel) rfl
set_option maxRecDepth 20000 in
theorem cw_X10_init : Cond.code M_X10_init.y M_X10_init.code M_X10_init.mL M_X10_init.ret ∈ LT := LT_in 68 (rfl) rfl
theorem im_X10_init : Cond.instanceMethod yX10_init ∈ LT := LT_in 67 (by decide +kernel) rfl
set_option maxRecDepth 20000 in
theorem cw_X10_write : Cond.code M_X10_write.y M_X10_write.code M_X10_write.mL M_X10_write.ret ∈ LT := LT_in 524 (rfl) rfl
theorem im_X10_write : Cond.instanceMethod yX10_write ∈ LT := LT_in 522 (by decide +kernel) rfl
theorem se_X10_write : Cond.selects RX10 yX10_write yX10_write ∈ LT := LT_in 523 (by decide +kernel) rfl
set_option maxRecDepth 20000 in
theorem cw_X10_wipe : Cond.code M_X10_wipe.y M_X10_wipe.code M_X10_wipe.mL M_X10_wipe.ret ∈ LT := LT_in 528 (rfl) rfl
theorem im_X10_wipe : Cond.instanceMethod yX10_wipe ∈ LT := LT_in 526 (by decide +kernel) rfl
theorem se_X10_wipe : Cond.selects RX10 yX10_wipe yX10_wipe ∈ LT := LT_in 527 (by decide +kernel) rfl
set_option maxRecDepth 20000 in
theorem cw_X10_fault : Cond.code M_X10_fault.y M_X10_fault.code M_X10_fault.mL M_X10_fault.ret ∈ LT := LT_in 532 (rfl) rfl
theorem im_X10_fault : Cond.instanceMethod yX10_fault ∈ LT := LT_in 530 (by decide +kernel) rfl
theorem se_X10_fault : Cond.selects RX10 yX10_fault yX10_fault ∈ LT := LT_in 531 (by decide +kernel) rfl
set_option maxRecDepth 20000 in
theorem cw_X10_lay : Cond.code M_X10_lay.y M_X10_lay.code M_X10_lay.mL M_X10_lay.ret ∈ LT := LT_in 536 (rfl) rfl
theorem im_X10_lay : Cond.instanceMethod yX10_lay ∈ LT := LT_in 534 (by decide +kernel) rfl
theorem se_X10_lay : Cond.selects RX10 yX10_lay yX10_lay ∈ LT := LT_in 535 (by decide +kernel) rfl
set_option maxRecDepth 20000 in
theorem cw_X10_guest : Cond.code M_X10_guest.y M_X10_guest.code M_X10_guest.mL M_X10_guest.ret ∈ LT := LT_in 544 (rfl) rfl
theorem im_X10_guest : Cond.instanceMethod yX10_guest ∈ LT := LT_in 542 (by decide +kernel) rfl
theorem se_X10_guest : Cond.selects RX10 yX10_guest yX10_guest ∈ LT := LT_in 543 (by decide +kernel) rfl
set_option maxRecDepth 20000 in
theorem cw_X10_thing : Cond.code M_X10_thing.y M_X10_thing.code M_X10_thing.mL M_X10_thing.ret ∈ LT := LT_in 562 (rfl) rfl
theorem im_X10_thing : Cond.instanceMethod yX10_thing ∈ LT := LT_in 560 (by decide +kernel) rfl
theorem se_X10_thing : Cond.selects RX10 yX10_thing yX10_thing ∈ LT := LT_in 561 (by decide +kernel) rfl
set_option maxRecDepth 20000 in
theorem cw_X10_weight : Cond.code M_X10_weight.y M_X10_weight.code M_X10_weight.mL M_X10_weight.ret ∈ LT := LT_in 573 (rfl) rfl
theorem im_X10_weight : Cond.instanceMethod yX10_weight ∈ LT := LT_in 571 (by decide +kernel) rfl
theorem se_X10_weight : Cond.selects RX10 yX10_weight yX10_weight ∈ LT := LT_in 572 (by decide +kernel) rfl
set_option maxRecDepth 20000 in
theorem cw_X10_say : Cond.code M_X10_say.y M_X10_say.code M_X10_say.mL M_X10_say.ret ∈ LT := LT_in 581 (rfl) rfl
theorem im_X10_say : Cond.instanceMethod yX10_say ∈ LT := LT_in 579 (by decide +kernel) rfl
theorem se_X10_say : Cond.selects RX10 yX10_say yX10_say ∈ LT := LT_in 580 (by decide +kernel) rfl
set_option maxRecDepth 20000 in
theorem cw_X10_sayBoth : Cond.code M_X10_sayBoth.y M_X10_sayBoth.code M_X10_sayBoth.mL M_X10_sayBoth.ret ∈ LT := LT_in 649 (rfl) rfl
theorem im_X10_sayBoth : Cond.instanceMethod yX10_sayBoth ∈ LT := LT_in 647 (by decide +kernel) rfl
theorem se_X10_sayBoth : Cond.selects RX10 yX10_sayBoth yX10_sayBoth ∈ LT := LT_in 648 (by decide +kernel) rfl
set_option maxRecDepth 20000 in
theorem cw_X10_hush : Cond.code M_X10_hush.y M_X10_hush.code M_X10_hush.mL M_X10_hush.ret ∈ LT := LT_in 657 (rfl) rfl
theorem im_X10_hush : Cond.instanceMethod yX10_hush ∈ LT := LT_in 655 (by decide +kernel) rfl
theorem se_X10_hush : Cond.selects RX10 yX10_hush yX10_hush ∈ LT := LT_in 656 (by decide +kernel) rfl
set_option maxRecDepth 20000 in
theorem cw_X10_undo : Cond.code M_X10_undo.y M_X10_undo.code M_X10_undo.mL M_X10_undo.ret ∈ LT := LT_in 661 (rfl) rfl
theorem im_X10_undo : Cond.instanceMethod yX10_undo ∈ LT := LT_in 659 (by decide +kernel) rfl
theorem se_X10_undo : Cond.selects RX10 yX10_undo yX10_undo ∈ LT := LT_in 660 (by decide +kernel) rfl
set_option maxRecDepth 20000 in
theorem cw_X10_went : Cond.code M_X10_went.y M_X10_went.code M_X10_went.mL M_X10_went.ret ∈ LT := LT_in 669 (rfl) rfl
theorem im_X10_went : Cond.instanceMethod yX10_went ∈ LT := LT_in 667 (by decide +kernel) rfl
theorem se_X10_went : Cond.selects RX10 yX10_went yX10_went ∈ LT := LT_in 668 (by decide +kernel) rfl
set_option maxRecDepth 20000 in
theorem cw_X10_fits : Cond.code M_X10_fits.y M_X10_fits.code M_X10_fits.mL M_X10_fits.ret ∈ LT := LT_in 681 (rfl) rfl
theorem im_X10_fits : Cond.instanceMethod yX10_fits ∈ LT := LT_in 679 (by decide +kernel) rfl
theorem se_X10_fits : Cond.selects RX10 yX10_fits yX10_fits ∈ LT := LT_in 680 (by decide +kernel) rfl
set_option maxRecDepth 20000 in
theorem cw_X10_sure : Cond.code M_X10_sure.y M_X10_sure.code M_X10_sure.mL M_X10_sure.ret ∈ LT := LT_in 703 (rfl) rfl
theorem im_X10_sure : Cond.instanceMethod yX10_sure ∈ LT := LT_in 701 (by decide +kernel) rfl
theorem se_X10_sure : Cond.selects RX10 yX10_sure yX10_sure ∈ LT := LT_in 702 (by decide +kernel) rfl
set_option maxRecDepth 20000 in
theorem cw_X10_laws : Cond.code M_X10_laws.y M_X10_laws.code M_X10_laws.mL M_X10_laws.ret ∈ LT := LT_in 707 (rfl) rfl
theorem im_X10_laws : Cond.instanceMethod yX10_laws ∈ LT := LT_in 705 (by decide +kernel) rfl
theorem se_X10_laws : Cond.selects RX10 yX10_laws yX10_laws ∈ LT := LT_in 706 (by decide +kernel) rfl
set_option maxRecDepth 20000 in
theorem cw_X10_ask : Cond.code M_X10_ask.y M_X10_ask.code M_X10_ask.mL M_X10_ask.ret ∈ LT := LT_in 714 (rfl) rfl
theorem im_X10_ask : Cond.instanceMethod yX10_ask ∈ LT := LT_in 712 (by decide +kernel) rfl
theorem se_X10_ask : Cond.selects RX10 yX10_ask yX10_ask ∈ LT := LT_in 713 (by decide +kernel) rfl
set_option maxRecDepth 20000 in
theorem cw_X10_fewest : Cond.code M_X10_fewest.y M_X10_fewest.code M_X10_fewest.mL M_X10_fewest.ret ∈ LT := LT_in 731 (rfl) rfl
theorem im_X10_fewest : Cond.instanceMethod yX10_fewest ∈ LT := LT_in 729 (by decide +kernel) rfl
theorem se_X10_fewest : Cond.selects RX10 yX10_fewest yX10_fewest ∈ LT := LT_in 730 (by decide +kernel) rfl
set_option maxRecDepth 20000 in
theorem cw_X10_story : Cond.code M_X10_story.y M_X10_story.code M_X10_story.mL M_X10_story.ret ∈ LT := LT_in 765 (rfl) rfl
theorem im_X10_story : Cond.instanceMethod yX10_story ∈ LT := LT_in 763 (by decide +kernel) rfl
theorem se_X10_story : Cond.selects RX10 yX10_story yX10_story ∈ LT := LT_in 764 (by decide +kernel) rfl
set_option maxRecDepth 20000 in
theorem cw_X10_rests : Cond.code M_X10_rests.y M_X10_rests.code M_X10_rests.mL M_X10_rests.ret ∈ LT := LT_in 781 (rfl) rfl
theorem im_X10_rests : Cond.instanceMethod yX10_rests ∈ LT := LT_in 779 (by decide +kernel) rfl
theorem se_X10_rests : Cond.selects RX10 yX10_rests yX10_rests ∈ LT := LT_in 780 (by decide +kernel) rfl
set_option maxRecDepth 20000 in
theorem cw_X10_tell : Cond.code M_X10_tell.y M_X10_tell.code M_X10_tell.mL M_X10_tell.ret ∈ LT := LT_in 810 (rfl) rfl
theorem im_X10_tell : Cond.instanceMethod yX10_tell ∈ LT := LT_in 808 (by decide +kernel) rfl
theorem se_X10_tell : Cond.selects RX10 yX10_tell yX10_tell ∈ LT := LT_in 809 (by decide +kernel) rfl
set_option maxRecDepth 20000 in
theorem cw_X10_forget : Cond.code M_X10_forget.y M_X10_forget.code M_X10_forget.mL M_X10_forget.ret ∈ LT := LT_in 818 (rfl) rfl
theorem im_X10_forget : Cond.instanceMethod yX10_forget ∈ LT := LT_in 816 (by decide +kernel) rfl
theorem se_X10_forget : Cond.selects RX10 yX10_forget yX10_forget ∈ LT := LT_in 817 (by decide +kernel) rfl
set_option maxRecDepth 20000 in
theorem cw_X10_believe : Cond.code M_X10_believe.y M_X10_believe.code M_X10_believe.mL M_X10_believe.ret ∈ LT := LT_in 822 (rfl) rfl
theorem im_X10_believe : Cond.instanceMethod yX10_believe ∈ LT := LT_in 820 (by decide +kernel) rfl
theorem se_X10_believe : Cond.selects RX10 yX10_believe yX10_believe ∈ LT := LT_in 821 (by decide +kernel) rfl
set_option maxRecDepth 20000 in
theorem cw_X10_trail : Cond.code M_X10_trail.y M_X10_trail.code M_X10_trail.mL M_X10_trail.ret ∈ LT := LT_in 835 (rfl) rfl
theorem im_X10_trail : Cond.instanceMethod yX10_trail ∈ LT := LT_in 833 (by decide +kernel) rfl
theorem se_X10_trail : Cond.selects RX10 yX10_trail yX10_trail ∈ LT := LT_in 834 (by decide +kernel) rfl
set_option maxRecDepth 20000 in
theorem cw_X10_dinner : Cond.code M_X10_dinner.y M_X10_dinner.code M_X10_dinner.mL M_X10_dinner.ret ∈ LT := LT_in 839 (rfl) rfl
theorem im_X10_dinner : Cond.instanceMethod yX10_dinner ∈ LT := LT_in 837 (by decide +kernel) rfl
theorem se_X10_dinner : Cond.selects RX10 yX10_dinner yX10_dinner ∈ LT := LT_in 838 (by decide +kernel) rfl
set_option maxRecDepth 20000 in
theorem cw_X10_keep : Cond.code M_X10_keep.y M_X10_keep.code M_X10_keep.mL M_X10_keep.ret ∈ LT := LT_in 859 (rfl) rfl
theorem im_X10_keep : Cond.instanceMethod yX10_keep ∈ LT := LT_in 857 (by decide +kernel) rfl
theorem se_X10_keep : Cond.selects RX10 yX10_keep yX10_keep ∈ LT := LT_in 858 (by decide +kernel) rfl
set_option maxRecDepth 20000 in
theorem cw_X10_back : Cond.code M_X10_back.y M_X10_back.code M_X10_back.mL M_X10_back.ret ∈ LT := LT_in 874 (rfl) rfl
theorem im_X10_back : Cond.instanceMethod yX10_back ∈ LT := LT_in 872 (by decide +kernel) rfl
theorem se_X10_back : Cond.selects RX10 yX10_back yX10_back ∈ LT := LT_in 873 (by decide +kernel) rfl
set_option maxRecDepth 20000 in
theorem cw_X10_count : Cond.code M_X10_count.y M_X10_count.code M_X10_count.mL M_X10_count.ret ∈ LT := LT_in 878 (rfl) rfl
theorem im_X10_count : Cond.instanceMethod yX10_count ∈ LT := LT_in 876 (by decide +kernel) rfl
theorem se_X10_count : Cond.selects RX10 yX10_count yX10_count ∈ LT := LT_in 877 (by decide +kernel) rfl
set_option maxRecDepth 20000 in
theorem cw_X10_arePair : Cond.code M_X10_arePair.y M_X10_arePair.code M_X10_arePair.mL M_X10_arePair.ret ∈ LT := LT_in 653 (rfl) rfl
theorem im_X10_arePair : Cond.instanceMethod yX10_arePair ∈ LT := LT_in 652 (by decide +kernel) rfl
theorem se_X10_arePair : Cond.selects RX10 yX10_arePair yX10_arePair ∈ LT := LT_in 12 (by decide +kernel) rfl
set_option maxRecDepth 20000 in
theorem cw_X10_takeDraft : Cond.code M_X10_takeDraft.y M_X10_takeDraft.code M_X10_takeDraft.mL M_X10_takeDraft.ret ∈ LT := LT_in 470 (rfl) rfl
theorem im_X10_takeDraft : Cond.instanceMethod yX10_takeDraft ∈ LT := LT_in 469 (by decide +kernel) rfl
theorem se_X10_takeDraft : Cond.selects RX10 yX10_takeDraft yX10_takeDraft ∈ LT := LT_in 6 (by decide +kernel) rfl
set_option maxRecDepth 20000 in
theorem cw_X11_init : Cond.code M_X11_init.y M_X11_init.code M_X11_init.mL M_X11_init.ret ∈ LT := LT_in 883 (rfl) rfl
theorem im_X11_init : Cond.instanceMethod yX11_init ∈ LT := LT_in 882 (by decide +kernel) rfl
set_option maxRecDepth 20000 in
theorem cw_X11_in : Cond.code M_X11_in.y M_X11_in.code M_X11_in.mL M_X11_in.ret ∈ LT := LT_in 956 (rfl) rfl
theorem st_X11_in : Cond.static yX11_in ∈ LT := LT_in 955 (by decide +kernel) rfl
set_option maxRecDepth 20000 in
theorem cw_X11_isGuest : Cond.code M_X11_isGuest.y M_X11_isGuest.code M_X11_isGuest.mL M_X11_isGuest.ret ∈ LT := LT_in 995 (rfl) rfl
theorem im_X11_isGuest : Cond.instanceMethod yX11_isGuest ∈ LT := LT_in 994 (by decide +kernel) rfl
theorem se_X11_isGuest : Cond.selects RX11 yX11_isGuest yX11_isGuest ∈ LT := LT_in 28 (by decide +kernel) rfl
set_option maxRecDepth 20000 in
theorem cw_X11_isThing : Cond.code M_X11_isThing.y M_X11_isThing.code M_X11_isThing.mL M_X11_isThing.ret ∈ LT := LT_in 1011 (rfl) rfl
theorem im_X11_isThing : Cond.instanceMethod yX11_isThing ∈ LT := LT_in 1010 (by decide +kernel) rfl
theorem se_X11_isThing : Cond.selects RX11 yX11_isThing yX11_isThing ∈ LT := LT_in 31 (by decide +kernel) rfl
set_option maxRecDepth 20000 in
theorem cw_X11_ones : Cond.code M_X11_ones.y M_X11_ones.code M_X11_ones.mL M_X11_ones.ret ∈ LT := LT_in 1113 (rfl) rfl
theorem st_X11_ones : Cond.static yX11_ones ∈ LT := LT_in 1112 (by decide +kernel) rfl
set_option maxRecDepth 20000 in
theorem cw_X11_write : Cond.code M_X11_write.y M_X11_write.code M_X11_write.mL M_X11_write.ret ∈ LT := LT_in 953 (rfl) rfl
theorem im_X11_write : Cond.instanceMethod yX11_write ∈ LT := LT_in 951 (by decide +kernel) rfl
theorem se_X11_write : Cond.selects RX11 yX11_write yX11_write ∈ LT := LT_in 952 (by decide +kernel) rfl
set_option maxRecDepth 20000 in
theorem cw_X11_wipe : Cond.code M_X11_wipe.y M_X11_wipe.code M_X11_wipe.mL M_X11_wipe.ret ∈ LT := LT_in 960 (rfl) rfl
theorem im_X11_wipe : Cond.instanceMethod yX11_wipe ∈ LT := LT_in 958 (by decide +kernel) rfl
theorem se_X11_wipe : Cond.selects RX11 yX11_wipe yX11_wipe ∈ LT := LT_in 959 (by decide +kernel) rfl
set_option maxRecDepth 20000 in
theorem cw_X11_letterAt : Cond.code M_X11_letterAt.y M_X11_letterAt.code M_X11_letterAt.mL M_X11_letterAt.ret ∈ LT := LT_in 980 (rfl) rfl
theorem im_X11_letterAt : Cond.instanceMethod yX11_letterAt ∈ LT := LT_in 979 (by decide +kernel) rfl
theorem se_X11_letterAt : Cond.selects RX11 yX11_letterAt yX11_letterAt ∈ LT := LT_in 27 (by decide +kernel) rfl
set_option maxRecDepth 20000 in
theorem cw_X11_isFigure : Cond.code M_X11_isFigure.y M_X11_isFigure.code M_X11_isFigure.mL M_X11_isFigure.ret ∈ LT := LT_in 983 (rfl) rfl
theorem st_X11_isFigure : Cond.static yX11_isFigure ∈ LT := LT_in 982 (by decide +kernel) rfl
set_option maxRecDepth 20000 in
theorem cw_X11_number : Cond.code M_X11_number.y M_X11_number.code M_X11_number.mL M_X11_number.ret ∈ LT := LT_in 976 (rfl) rfl
theorem im_X11_number : Cond.instanceMethod yX11_number ∈ LT := LT_in 975 (by decide +kernel) rfl
theorem se_X11_number : Cond.selects RX11 yX11_number yX11_number ∈ LT := LT_in 26 (by decide +kernel) rfl
set_option maxRecDepth 20000 in
theorem cw_X11_begins : Cond.code M_X11_begins.y M_X11_begins.code M_X11_begins.mL M_X11_begins.ret ∈ LT := LT_in 888 (rfl) rfl
theorem im_X11_begins : Cond.instanceMethod yX11_begins ∈ LT := LT_in 887 (by decide +kernel) rfl
theorem se_X11_begins : Cond.selects RX11 yX11_begins yX11_begins ∈ LT := LT_in 20 (by decide +kernel) rfl
set_option maxRecDepth 20000 in
theorem cw_X11_guestOf : Cond.code M_X11_guestOf.y M_X11_guestOf.code M_X11_guestOf.mL M_X11_guestOf.ret ∈ LT := LT_in 892 (rfl) rfl
theorem im_X11_guestOf : Cond.instanceMethod yX11_guestOf ∈ LT := LT_in 891 (by decide +kernel) rfl
theorem se_X11_guestOf : Cond.selects RX11 yX11_guestOf yX11_guestOf ∈ LT := LT_in 21 (by decide +kernel) rfl
set_option maxRecDepth 20000 in
theorem cw_X11_thingOf : Cond.code M_X11_thingOf.y M_X11_thingOf.code M_X11_thingOf.mL M_X11_thingOf.ret ∈ LT := LT_in 896 (rfl) rfl
theorem im_X11_thingOf : Cond.instanceMethod yX11_thingOf ∈ LT := LT_in 895 (by decide +kernel) rfl
theorem se_X11_thingOf : Cond.selects RX11 yX11_thingOf yX11_thingOf ∈ LT := LT_in 22 (by decide +kernel) rfl
set_option maxRecDepth 20000 in
theorem cw_X11_readsItem : Cond.code M_X11_readsItem.y M_X11_readsItem.code M_X11_readsItem.mL M_X11_readsItem.ret ∈ LT := LT_in 972 (rfl) rfl
theorem im_X11_readsItem : Cond.instanceMethod yX11_readsItem ∈ LT := LT_in 971 (by decide +kernel) rfl
theorem se_X11_readsItem : Cond.selects RX11 yX11_readsItem yX11_readsItem ∈ LT := LT_in 25 (by decide +kernel) rfl
set_option maxRecDepth 20000 in
theorem cw_X11_reads : Cond.code M_X11_reads.y M_X11_reads.code M_X11_reads.mL M_X11_reads.ret ∈ LT := LT_in 968 (rfl) rfl
theorem im_X11_reads : Cond.instanceMethod yX11_reads ∈ LT := LT_in 967 (by decide +kernel) rfl
theorem se_X11_reads : Cond.selects RX11 yX11_reads yX11_reads ∈ LT := LT_in 24 (by decide +kernel) rfl
set_option maxRecDepth 20000 in
theorem cw_X11_fault : Cond.code M_X11_fault.y M_X11_fault.code M_X11_fault.mL M_X11_fault.ret ∈ LT := LT_in 964 (rfl) rfl
theorem im_X11_fault : Cond.instanceMethod yX11_fault ∈ LT := LT_in 962 (by decide +kernel) rfl
theorem se_X11_fault : Cond.selects RX11 yX11_fault yX11_fault ∈ LT := LT_in 963 (by decide +kernel) rfl
set_option maxRecDepth 20000 in
theorem cw_X11_lays : Cond.code M_X11_lays.y M_X11_lays.code M_X11_lays.mL M_X11_lays.ret ∈ LT := LT_in 900 (rfl) rfl
theorem im_X11_lays : Cond.instanceMethod yX11_lays ∈ LT := LT_in 899 (by decide +kernel) rfl
theorem se_X11_lays : Cond.selects RX11 yX11_lays yX11_lays ∈ LT := LT_in 23 (by decide +kernel) rfl
set_option maxRecDepth 20000 in
theorem cw_X11_lay : Cond.code M_X11_lay.y M_X11_lay.code M_X11_lay.mL M_X11_lay.ret ∈ LT := LT_in 987 (rfl) rfl
theorem im_X11_lay : Cond.instanceMethod yX11_lay ∈ LT := LT_in 985 (by decide +kernel) rfl
theorem se_X11_lay : Cond.selects RX11 yX11_lay yX11_lay ∈ LT := LT_in 986 (by decide +kernel) rfl
set_option maxRecDepth 20000 in
theorem cw_X11_up : Cond.code M_X11_up.y M_X11_up.code M_X11_up.mL M_X11_up.ret ∈ LT := LT_in 1003 (rfl) rfl
theorem im_X11_up : Cond.instanceMethod yX11_up ∈ LT := LT_in 1002 (by decide +kernel) rfl
theorem se_X11_up : Cond.selects RX11 yX11_up yX11_up ∈ LT := LT_in 30 (by decide +kernel) rfl
set_option maxRecDepth 20000 in
theorem cw_X11_far : Cond.code M_X11_far.y M_X11_far.code M_X11_far.mL M_X11_far.ret ∈ LT := LT_in 999 (rfl) rfl
theorem im_X11_far : Cond.instanceMethod yX11_far ∈ LT := LT_in 998 (by decide +kernel) rfl
theorem se_X11_far : Cond.selects RX11 yX11_far yX11_far ∈ LT := LT_in 29 (by decide +kernel) rfl
set_option maxRecDepth 20000 in
theorem cw_X11_guest : Cond.code M_X11_guest.y M_X11_guest.code M_X11_guest.mL M_X11_guest.ret ∈ LT := LT_in 991 (rfl) rfl
theorem im_X11_guest : Cond.instanceMethod yX11_guest ∈ LT := LT_in 989 (by decide +kernel) rfl
theorem se_X11_guest : Cond.selects RX11 yX11_guest yX11_guest ∈ LT := LT_in 990 (by decide +kernel) rfl
set_option maxRecDepth 20000 in
theorem cw_X11_thing : Cond.code M_X11_thing.y M_X11_thing.code M_X11_thing.mL M_X11_thing.ret ∈ LT := LT_in 1007 (rfl) rfl
theorem im_X11_thing : Cond.instanceMethod yX11_thing ∈ LT := LT_in 1005 (by decide +kernel) rfl
theorem se_X11_thing : Cond.selects RX11 yX11_thing yX11_thing ∈ LT := LT_in 1006 (by decide +kernel) rfl
set_option maxRecDepth 20000 in
theorem cw_X11_counts : Cond.code M_X11_counts.y M_X11_counts.code M_X11_counts.mL M_X11_counts.ret ∈ LT := LT_in 1019 (rfl) rfl
theorem im_X11_counts : Cond.instanceMethod yX11_counts ∈ LT := LT_in 1018 (by decide +kernel) rfl
theorem se_X11_counts : Cond.selects RX11 yX11_counts yX11_counts ∈ LT := LT_in 32 (by decide +kernel) rfl
set_option maxRecDepth 20000 in
theorem cw_X11_weight : Cond.code M_X11_weight.y M_X11_weight.code M_X11_weight.mL M_X11_weight.ret ∈ LT := LT_in 1015 (rfl) rfl
theorem im_X11_weight : Cond.instanceMethod yX11_weight ∈ LT := LT_in 1013 (by decide +kernel) rfl
theorem se_X11_weight : Cond.selects RX11 yX11_weight yX11_weight ∈ LT := LT_in 1014 (by decide +kernel) rfl
set_option maxRecDepth 20000 in
theorem cw_X11_steps : Cond.code M_X11_steps.y M_X11_steps.code M_X11_steps.mL M_X11_steps.ret ∈ LT := LT_in 1053 (rfl) rfl
theorem im_X11_steps : Cond.instanceMethod yX11_steps ∈ LT := LT_in 1052 (by decide +kernel) rfl
theorem se_X11_steps : Cond.selects RX11 yX11_steps yX11_steps ∈ LT := LT_in 38 (by decide +kernel) rfl
set_option maxRecDepth 20000 in
theorem cw_X11_drawn : Cond.code M_X11_drawn.y M_X11_drawn.code M_X11_drawn.mL M_X11_drawn.ret ∈ LT := LT_in 1057 (rfl) rfl
theorem im_X11_drawn : Cond.instanceMethod yX11_drawn ∈ LT := LT_in 1056 (by decide +kernel) rfl
theorem se_X11_drawn : Cond.selects RX11 yX11_drawn yX11_drawn ∈ LT := LT_in 39 (by decide +kernel) rfl
set_option maxRecDepth 20000 in
theorem cw_X11_hushed : Cond.code M_X11_hushed.y M_X11_hushed.code M_X11_hushed.mL M_X11_hushed.ret ∈ LT := LT_in 1049 (rfl) rfl
theorem im_X11_hushed : Cond.instanceMethod yX11_hushed ∈ LT := LT_in 1048 (by decide +kernel) rfl
theorem se_X11_hushed : Cond.selects RX11 yX11_hushed yX11_hushed ∈ LT := LT_in 37 (by decide +kernel) rfl
set_option maxRecDepth 20000 in
theorem cw_X11_saying : Cond.code M_X11_saying.y M_X11_saying.code M_X11_saying.mL M_X11_saying.ret ∈ LT := LT_in 1030 (rfl) rfl
theorem st_X11_saying : Cond.static yX11_saying ∈ LT := LT_in 1029 (by decide +kernel) rfl
set_option maxRecDepth 20000 in
theorem cw_X11_countsOf : Cond.code M_X11_countsOf.y M_X11_countsOf.code M_X11_countsOf.mL M_X11_countsOf.ret ∈ LT := LT_in 1042 (rfl) rfl
theorem im_X11_countsOf : Cond.instanceMethod yX11_countsOf ∈ LT := LT_in 1041 (by decide +kernel) rfl
theorem se_X11_countsOf : Cond.selects RX11 yX11_countsOf yX11_countsOf ∈ LT := LT_in 36 (by decide +kernel) rfl
set_option maxRecDepth 20000 in
theorem cw_X11_spokeOf : Cond.code M_X11_spokeOf.y M_X11_spokeOf.code M_X11_spokeOf.mL M_X11_spokeOf.ret ∈ LT := LT_in 1045 (rfl) rfl
theorem st_X11_spokeOf : Cond.static yX11_spokeOf ∈ LT := LT_in 1044 (by decide +kernel) rfl
set_option maxRecDepth 20000 in
theorem cw_X11_comes : Cond.code M_X11_comes.y M_X11_comes.code M_X11_comes.mL M_X11_comes.ret ∈ LT := LT_in 1038 (rfl) rfl
theorem im_X11_comes : Cond.instanceMethod yX11_comes ∈ LT := LT_in 1037 (by decide +kernel) rfl
theorem se_X11_comes : Cond.selects RX11 yX11_comes yX11_comes ∈ LT := LT_in 35 (by decide +kernel) rfl
set_option maxRecDepth 20000 in
theorem cw_X11_lies : Cond.code M_X11_lies.y M_X11_lies.code M_X11_lies.mL M_X11_lies.ret ∈ LT := LT_in 1061 (rfl) rfl
theorem im_X11_lies : Cond.instanceMethod yX11_lies ∈ LT := LT_in 1060 (by decide +kernel) rfl
theorem se_X11_lies : Cond.selects RX11 yX11_lies yX11_lies ∈ LT := LT_in 40 (by decide +kernel) rfl
set_option maxRecDepth 20000 in
theorem cw_X11_goes : Cond.code M_X11_goes.y M_X11_goes.code M_X11_goes.mL M_X11_goes.ret ∈ LT := LT_in 1034 (rfl) rfl
theorem im_X11_goes : Cond.instanceMethod yX11_goes ∈ LT := LT_in 1033 (by decide +kernel) rfl
theorem se_X11_goes : Cond.selects RX11 yX11_goes yX11_goes ∈ LT := LT_in 34 (by decide +kernel) rfl
set_option maxRecDepth 20000 in
theorem cw_X11_keeps : Cond.code M_X11_keeps.y M_X11_keeps.code M_X11_keeps.mL M_X11_keeps.ret ∈ LT := LT_in 1027 (rfl) rfl
theorem im_X11_keeps : Cond.instanceMethod yX11_keeps ∈ LT := LT_in 1026 (by decide +kernel) rfl
theorem se_X11_keeps : Cond.selects RX11 yX11_keeps yX11_keeps ∈ LT := LT_in 33 (by decide +kernel) rfl
set_option maxRecDepth 20000 in
theorem cw_X11_say : Cond.code M_X11_say.y M_X11_say.code M_X11_say.mL M_X11_say.ret ∈ LT := LT_in 1023 (rfl) rfl
theorem im_X11_say : Cond.instanceMethod yX11_say ∈ LT := LT_in 1021 (by decide +kernel) rfl
theorem se_X11_say : Cond.selects RX11 yX11_say yX11_say ∈ LT := LT_in 1022 (by decide +kernel) rfl
set_option maxRecDepth 20000 in
theorem cw_X11_sayBoth : Cond.code M_X11_sayBoth.y M_X11_sayBoth.code M_X11_sayBoth.mL M_X11_sayBoth.ret ∈ LT := LT_in 1065 (rfl) rfl
theorem im_X11_sayBoth : Cond.instanceMethod yX11_sayBoth ∈ LT := LT_in 1063 (by decide +kernel) rfl
theorem se_X11_sayBoth : Cond.selects RX11 yX11_sayBoth yX11_sayBoth ∈ LT := LT_in 1064 (by decide +kernel) rfl
set_option maxRecDepth 20000 in
theorem cw_X11_hush : Cond.code M_X11_hush.y M_X11_hush.code M_X11_hush.mL M_X11_hush.ret ∈ LT := LT_in 1069 (rfl) rfl
theorem im_X11_hush : Cond.instanceMethod yX11_hush ∈ LT := LT_in 1067 (by decide +kernel) rfl
theorem se_X11_hush : Cond.selects RX11 yX11_hush yX11_hush ∈ LT := LT_in 1068 (by decide +kernel) rfl
set_option maxRecDepth 20000 in
theorem cw_X11_undo : Cond.code M_X11_undo.y M_X11_undo.code M_X11_undo.mL M_X11_undo.ret ∈ LT := LT_in 1073 (rfl) rfl
theorem im_X11_undo : Cond.instanceMethod yX11_undo ∈ LT := LT_in 1071 (by decide +kernel) rfl
theorem se_X11_undo : Cond.selects RX11 yX11_undo yX11_undo ∈ LT := LT_in 1072 (by decide +kernel) rfl
set_option maxRecDepth 20000 in
theorem cw_X11_went : Cond.code M_X11_went.y M_X11_went.code M_X11_went.mL M_X11_went.ret ∈ LT := LT_in 1077 (rfl) rfl
theorem im_X11_went : Cond.instanceMethod yX11_went ∈ LT := LT_in 1075 (by decide +kernel) rfl
theorem se_X11_went : Cond.selects RX11 yX11_went yX11_went ∈ LT := LT_in 1076 (by decide +kernel) rfl
set_option maxRecDepth 20000 in
theorem cw_X11_isSo : Cond.code M_X11_isSo.y M_X11_isSo.code M_X11_isSo.mL M_X11_isSo.ret ∈ LT := LT_in 1085 (rfl) rfl
theorem im_X11_isSo : Cond.instanceMethod yX11_isSo ∈ LT := LT_in 1084 (by decide +kernel) rfl
theorem se_X11_isSo : Cond.selects RX11 yX11_isSo yX11_isSo ∈ LT := LT_in 41 (by decide +kernel) rfl
set_option maxRecDepth 20000 in
theorem cw_X11_fits : Cond.code M_X11_fits.y M_X11_fits.code M_X11_fits.mL M_X11_fits.ret ∈ LT := LT_in 1081 (rfl) rfl
theorem im_X11_fits : Cond.instanceMethod yX11_fits ∈ LT := LT_in 1079 (by decide +kernel) rfl
theorem se_X11_fits : Cond.selects RX11 yX11_fits yX11_fits ∈ LT := LT_in 1080 (by decide +kernel) rfl
set_option maxRecDepth 20000 in
theorem cw_X11_sure : Cond.code M_X11_sure.y M_X11_sure.code M_X11_sure.mL M_X11_sure.ret ∈ LT := LT_in 1089 (rfl) rfl
theorem im_X11_sure : Cond.instanceMethod yX11_sure ∈ LT := LT_in 1087 (by decide +kernel) rfl
theorem se_X11_sure : Cond.selects RX11 yX11_sure yX11_sure ∈ LT := LT_in 1088 (by decide +kernel) rfl
set_option maxRecDepth 20000 in
theorem cw_X11_laws : Cond.code M_X11_laws.y M_X11_laws.code M_X11_laws.mL M_X11_laws.ret ∈ LT := LT_in 1093 (rfl) rfl
theorem im_X11_laws : Cond.instanceMethod yX11_laws ∈ LT := LT_in 1091 (by decide +kernel) rfl
theorem se_X11_laws : Cond.selects RX11 yX11_laws yX11_laws ∈ LT := LT_in 1092 (by decide +kernel) rfl
set_option maxRecDepth 20000 in
theorem cw_X11_ask : Cond.code M_X11_ask.y M_X11_ask.code M_X11_ask.mL M_X11_ask.ret ∈ LT := LT_in 1097 (rfl) rfl
theorem im_X11_ask : Cond.instanceMethod yX11_ask ∈ LT := LT_in 1095 (by decide +kernel) rfl
theorem se_X11_ask : Cond.selects RX11 yX11_ask yX11_ask ∈ LT := LT_in 1096 (by decide +kernel) rfl
set_option maxRecDepth 20000 in
theorem cw_X11_leads : Cond.code M_X11_leads.y M_X11_leads.code M_X11_leads.mL M_X11_leads.ret ∈ LT := LT_in 1106 (rfl) rfl
theorem im_X11_leads : Cond.instanceMethod yX11_leads ∈ LT := LT_in 1105 (by decide +kernel) rfl
theorem se_X11_leads : Cond.selects RX11 yX11_leads yX11_leads ∈ LT := LT_in 42 (by decide +kernel) rfl
set_option maxRecDepth 20000 in
theorem cw_X11_fewest : Cond.code M_X11_fewest.y M_X11_fewest.code M_X11_fewest.mL M_X11_fewest.ret ∈ LT := LT_in 1102 (rfl) rfl
theorem im_X11_fewest : Cond.instanceMethod yX11_fewest ∈ LT := LT_in 1100 (by decide +kernel) rfl
theorem se_X11_fewest : Cond.selects RX11 yX11_fewest yX11_fewest ∈ LT := LT_in 1101 (by decide +kernel) rfl
set_option maxRecDepth 20000 in
theorem cw_X11_story : Cond.code M_X11_story.y M_X11_story.code M_X11_story.mL M_X11_story.ret ∈ LT := LT_in 1110 (rfl) rfl
theorem im_X11_story : Cond.instanceMethod yX11_story ∈ LT := LT_in 1108 (by decide +kernel) rfl
theorem se_X11_story : Cond.selects RX11 yX11_story yX11_story ∈ LT := LT_in 1109 (by decide +kernel) rfl
set_option maxRecDepth 20000 in
theorem cw_X11_has : Cond.code M_X11_has.y M_X11_has.code M_X11_has.mL M_X11_has.ret ∈ LT := LT_in 1121 (rfl) rfl
theorem im_X11_has : Cond.instanceMethod yX11_has ∈ LT := LT_in 1120 (by decide +kernel) rfl
theorem se_X11_has : Cond.selects RX11 yX11_has yX11_has ∈ LT := LT_in 43 (by decide +kernel) rfl
set_option maxRecDepth 20000 in
theorem cw_X11_rests : Cond.code M_X11_rests.y M_X11_rests.code M_X11_rests.mL M_X11_rests.ret ∈ LT := LT_in 1117 (rfl) rfl
theorem im_X11_rests : Cond.instanceMethod yX11_rests ∈ LT := LT_in 1115 (by decide +kernel) rfl
theorem se_X11_rests : Cond.selects RX11 yX11_rests yX11_rests ∈ LT := LT_in 1116 (by decide +kernel) rfl
set_option maxRecDepth 20000 in
theorem cw_X11_tell : Cond.code M_X11_tell.y M_X11_tell.code M_X11_tell.mL M_X11_tell.ret ∈ LT := LT_in 1125 (rfl) rfl
theorem im_X11_tell : Cond.instanceMethod yX11_tell ∈ LT := LT_in 1123 (by decide +kernel) rfl
theorem se_X11_tell : Cond.selects RX11 yX11_tell yX11_tell ∈ LT := LT_in 1124 (by decide +kernel) rfl
set_option maxRecDepth 20000 in
theorem cw_X11_forget : Cond.code M_X11_forget.y M_X11_forget.code M_X11_forget.mL M_X11_forget.ret ∈ LT := LT_in 1129 (rfl) rfl
theorem im_X11_forget : Cond.instanceMethod yX11_forget ∈ LT := LT_in 1127 (by decide +kernel) rfl
theorem se_X11_forget : Cond.selects RX11 yX11_forget yX11_forget ∈ LT := LT_in 1128 (by decide +kernel) rfl
set_option maxRecDepth 20000 in
theorem cw_X11_believe : Cond.code M_X11_believe.y M_X11_believe.code M_X11_believe.mL M_X11_believe.ret ∈ LT := LT_in 1133 (rfl) rfl
theorem im_X11_believe : Cond.instanceMethod yX11_believe ∈ LT := LT_in 1131 (by decide +kernel) rfl
theorem se_X11_believe : Cond.selects RX11 yX11_believe yX11_believe ∈ LT := LT_in 1132 (by decide +kernel) rfl
set_option maxRecDepth 20000 in
theorem cw_X11_trail : Cond.code M_X11_trail.y M_X11_trail.code M_X11_trail.mL M_X11_trail.ret ∈ LT := LT_in 1139 (rfl) rfl
theorem im_X11_trail : Cond.instanceMethod yX11_trail ∈ LT := LT_in 1137 (by decide +kernel) rfl
theorem se_X11_trail : Cond.selects RX11 yX11_trail yX11_trail ∈ LT := LT_in 1138 (by decide +kernel) rfl
set_option maxRecDepth 20000 in
theorem cw_X11_dinner : Cond.code M_X11_dinner.y M_X11_dinner.code M_X11_dinner.mL M_X11_dinner.ret ∈ LT := LT_in 1143 (rfl) rfl
theorem im_X11_dinner : Cond.instanceMethod yX11_dinner ∈ LT := LT_in 1141 (by decide +kernel) rfl
theorem se_X11_dinner : Cond.selects RX11 yX11_dinner yX11_dinner ∈ LT := LT_in 1142 (by decide +kernel) rfl
set_option maxRecDepth 20000 in
theorem cw_X11_keep : Cond.code M_X11_keep.y M_X11_keep.code M_X11_keep.mL M_X11_keep.ret ∈ LT := LT_in 1150 (rfl) rfl
theorem im_X11_keep : Cond.instanceMethod yX11_keep ∈ LT := LT_in 1148 (by decide +kernel) rfl
theorem se_X11_keep : Cond.selects RX11 yX11_keep yX11_keep ∈ LT := LT_in 1149 (by decide +kernel) rfl
set_option maxRecDepth 20000 in
theorem cw_X11_back : Cond.code M_X11_back.y M_X11_back.code M_X11_back.mL M_X11_back.ret ∈ LT := LT_in 1154 (rfl) rfl
theorem im_X11_back : Cond.instanceMethod yX11_back ∈ LT := LT_in 1152 (by decide +kernel) rfl
theorem se_X11_back : Cond.selects RX11 yX11_back yX11_back ∈ LT := LT_in 1153 (by decide +kernel) rfl
set_option maxRecDepth 20000 in
theorem cw_X11_count : Cond.code M_X11_count.y M_X11_count.code M_X11_count.mL M_X11_count.ret ∈ LT := LT_in 1158 (rfl) rfl
theorem im_X11_count : Cond.instanceMethod yX11_count ∈ LT := LT_in 1156 (by decide +kernel) rfl
theorem se_X11_count : Cond.selects RX11 yX11_count yX11_count ∈ LT := LT_in 1157 (by decide +kernel) rfl
set_option maxRecDepth 20000 in
theorem cw_J6_bitCount_0f7a4 : Cond.code M_J6_bitCount_0f7a4.y M_J6_bitCount_0f7a4.code M_J6_bitCount_0f7a4.mL M_J6_bitCount_0f7a4.ret ∈ LT := LT_in 774 (rfl) rfl
theorem st_J6_bitCount_0f7a4 : Cond.static yJ6_bitCount_0f7a4 ∈ LT := LT_in 773 (by decide +kernel) rfl
set_option maxRecDepth 20000 in
theorem cw_J9_floorMod_7cf53 : Cond.code M_J9_floorMod_7cf53.y M_J9_floorMod_7cf53.code M_J9_floorMod_7cf53.mL M_J9_floorMod_7cf53.ret ∈ LT := LT_in 588 (rfl) rfl
theorem st_J9_floorMod_7cf53 : Cond.static yJ9_floorMod_7cf53 ∈ LT := LT_in 587 (by decide +kernel) rfl
set_option maxRecDepth 20000 in
theorem cw_J9_abs_0f7a4 : Cond.code M_J9_abs_0f7a4.y M_J9_abs_0f7a4.code M_J9_abs_0f7a4.mL M_J9_abs_0f7a4.ret ∈ LT := LT_in 555 (rfl) rfl
theorem st_J9_abs_0f7a4 : Cond.static yJ9_abs_0f7a4 ∈ LT := LT_in 554 (by decide +kernel) rfl
set_option maxRecDepth 20000 in
theorem cw_J9_max_7cf53 : Cond.code M_J9_max_7cf53.y M_J9_max_7cf53.code M_J9_max_7cf53.mL M_J9_max_7cf53.ret ∈ LT := LT_in 727 (rfl) rfl
theorem st_J9_max_7cf53 : Cond.static yJ9_max_7cf53 ∈ LT := LT_in 726 (by decide +kernel) rfl
set_option maxRecDepth 20000 in
theorem cw_J9_min_7cf53 : Cond.code M_J9_min_7cf53.y M_J9_min_7cf53.code M_J9_min_7cf53.mL M_J9_min_7cf53.ret ∈ LT := LT_in 558 (rfl) rfl
theorem st_J9_min_7cf53 : Cond.static yJ9_min_7cf53 ∈ LT := LT_in 557 (by decide +kernel) rfl
set_option maxRecDepth 20000 in
theorem cw_J0_length_8abf5 : Cond.code M_J0_length_8abf5.y M_J0_length_8abf5.code M_J0_length_8abf5.mL M_J0_length_8abf5.ret ∈ LT := LT_in 372 (rfl) rfl
theorem im_J0_length_8abf5 : Cond.instanceMethod yJ0_length_8abf5 ∈ LT := LT_in 370 (by decide +kernel) rfl
theorem se_J0_length_8abf5 : Cond.selects RJ0 yJ0_length_8abf5 yJ0_length_8abf5 ∈ LT := LT_in 371 (by decide +kernel) rfl
set_option maxRecDepth 20000 in
theorem cw_J0_charAt_5068e : Cond.code M_J0_charAt_5068e.y M_J0_charAt_5068e.code M_J0_charAt_5068e.mL M_J0_charAt_5068e.ret ∈ LT := LT_in 382 (rfl) rfl
theorem im_J0_charAt_5068e : Cond.instanceMethod yJ0_charAt_5068e ∈ LT := LT_in 380 (by decide +kernel) rfl
theorem se_J0_charAt_5068e : Cond.selects RJ0 yJ0_charAt_5068e yJ0_charAt_5068e ∈ LT := LT_in 381 (by decide +kernel) rfl
set_option maxRecDepth 20000 in
theorem cw_J0_coder_7d493 : Cond.code M_J0_coder_7d493.y M_J0_coder_7d493.code M_J0_coder_7d493.mL M_J0_coder_7d493.ret ∈ LT := LT_in 376 (rfl) rfl
theorem im_J0_coder_7d493 : Cond.instanceMethod yJ0_coder_7d493 ∈ LT := LT_in 374 (by decide +kernel) rfl
theorem se_J0_coder_7d493 : Cond.selects RJ0 yJ0_coder_7d493 yJ0_coder_7d493 ∈ LT := LT_in 375 (by decide +kernel) rfl
set_option maxRecDepth 20000 in
theorem cw_J0_isLatin1_aae02 : Cond.code M_J0_isLatin1_aae02.y M_J0_isLatin1_aae02.code M_J0_isLatin1_aae02.mL M_J0_isLatin1_aae02.ret ∈ LT := LT_in 386 (rfl) rfl
theorem im_J0_isLatin1_aae02 : Cond.instanceMethod yJ0_isLatin1_aae02 ∈ LT := LT_in 384 (by decide +kernel) rfl
theorem se_J0_isLatin1_aae02 : Cond.selects RJ0 yJ0_isLatin1_aae02 yJ0_isLatin1_aae02 ∈ LT := LT_in 385 (by decide +kernel) rfl
set_option maxRecDepth 20000 in
theorem cw_J0_checkIndex_df160 : Cond.code M_J0_checkIndex_df160.y M_J0_checkIndex_df160.code M_J0_checkIndex_df160.mL M_J0_checkIndex_df160.ret ∈ LT := LT_in 392 (rfl) rfl
theorem st_J0_checkIndex_df160 : Cond.static yJ0_checkIndex_df160 ∈ LT := LT_in 391 (by decide +kernel) rfl
set_option maxRecDepth 20000 in
theorem cw_J1_charAt_3b067 : Cond.code M_J1_charAt_3b067.y M_J1_charAt_3b067.code M_J1_charAt_3b067.mL M_J1_charAt_3b067.ret ∈ LT := LT_in 389 (rfl) rfl
theorem st_J1_charAt_3b067 : Cond.static yJ1_charAt_3b067 ∈ LT := LT_in 388 (by decide +kernel) rfl
set_option maxRecDepth 20000 in
theorem cw_J2_getChar_3b067 : Cond.code M_J2_getChar_3b067.y M_J2_getChar_3b067.code M_J2_getChar_3b067.mL M_J2_getChar_3b067.ret ∈ LT := LT_in 410 (rfl) rfl
theorem st_J2_getChar_3b067 : Cond.static yJ2_getChar_3b067 ∈ LT := LT_in 409 (by decide +kernel) rfl
set_option maxRecDepth 20000 in
theorem cw_J2_length_9d52b : Cond.code M_J2_length_9d52b.y M_J2_length_9d52b.code M_J2_length_9d52b.mL M_J2_length_9d52b.ret ∈ LT := LT_in 406 (rfl) rfl
theorem st_J2_length_9d52b : Cond.static yJ2_length_9d52b ∈ LT := LT_in 405 (by decide +kernel) rfl
set_option maxRecDepth 20000 in
theorem cw_J2_charAt_3b067 : Cond.code M_J2_charAt_3b067.y M_J2_charAt_3b067.code M_J2_charAt_3b067.mL M_J2_charAt_3b067.ret ∈ LT := LT_in 400 (rfl) rfl
theorem st_J2_charAt_3b067 : Cond.static yJ2_charAt_3b067 ∈ LT := LT_in 399 (by decide +kernel) rfl
set_option maxRecDepth 20000 in
theorem cw_J2_checkIndex_2214a : Cond.code M_J2_checkIndex_2214a.y M_J2_checkIndex_2214a.code M_J2_checkIndex_2214a.mL M_J2_checkIndex_2214a.ret ∈ LT := LT_in 403 (rfl) rfl
theorem st_J2_checkIndex_2214a : Cond.static yJ2_checkIndex_2214a ∈ LT := LT_in 402 (by decide +kernel) rfl
set_option maxRecDepth 20000 in
theorem cw_J3_checkIndex_8e157 : Cond.code M_J3_checkIndex_8e157.y M_J3_checkIndex_8e157.code M_J3_checkIndex_8e157.mL M_J3_checkIndex_8e157.ret ∈ LT := LT_in 397 (rfl) rfl
theorem st_J3_checkIndex_8e157 : Cond.static yJ3_checkIndex_8e157 ∈ LT := LT_in 396 (by decide +kernel) rfl
theorem im_obj : Cond.instanceMethod objectInit ∈ LT := LT_in 70 (by decide +kernel) rfl
set_option maxRecDepth 20000 in
theorem cw_obj : Cond.code objectInit ⟨#[0xb1]⟩ 1 none ∈ LT := LT_in 71 (rfl) rfl
theorem nat_ac : Cond.native arraycopyName ∈ LT := LT_in 866 (by decide +kernel) rfl
theorem st_ac : Cond.static arraycopyName ∈ LT := LT_in 865 (by decide +kernel) rfl
theorem cl_L_7 : Cond.classLink RL 7 "SaltToLiars" ∈ LT := LT_in 64 (by decide +kernel) rfl
theorem ml_L_9 : Cond.methodLink RL 9 yX10_init ∈ LT := LT_in 66 (by decide +kernel) rfl
theorem ml_X10_1 : Cond.methodLink RX10 1 objectInit ∈ LT := LT_in 69 (by decide +kernel) rfl
theorem cl_X10_7 : Cond.classLink RX10 7 "SaltToLiars$Letters" ∈ LT := LT_in 72 (by decide +kernel) rfl
theorem ml_X10_9 : Cond.methodLinkNest RX10 9 yX2_init "SaltToLiars" ∈ NL := NL_in 74 (by decide +kernel) rfl
theorem ml_X2_1 : Cond.methodLink RX2 1 objectInit ∈ LT := LT_in 77 (by decide +kernel) rfl
theorem fl_X2_9 : Cond.fieldLink RX2 9 "SaltToLiars$Letters" "row" "[I" ∈ LT := LT_in 78 (by decide +kernel) rfl
theorem fl_X2_13 : Cond.fieldLink RX2 13 "SaltToLiars$Letters" "length" "I" ∈ LT := LT_in 79 (by decide +kernel) rfl
theorem fl_X5_26 : Cond.fieldLink RX5 26 "SaltToLiars$Letters" "length" "I" ∈ LT := LT_in 80 (by decide +kernel) rfl
theorem fl_X10_105 : Cond.fieldLink RX10 105 "SaltToLiars$Letters" "length" "I" ∈ LT := LT_in 81 (by decide +kernel) rfl
theorem cl_X10_16 : Cond.classLink RX10 16 "SaltToLiars$Reader" ∈ LT := LT_in 88 (by decide +kernel) rfl
theorem ml_X10_18 : Cond.methodLinkNest RX10 18 yX5_init "SaltToLiars" ∈ NL := NL_in 90 (by decide +kernel) rfl
theorem ml_X5_3 : Cond.methodLink RX5 3 objectInit ∈ LT := LT_in 93 (by decide +kernel) rfl
theorem fl_X5_11 : Cond.fieldLink RX5 11 "SaltToLiars$Reader" "numbers" "[I" ∈ LT := LT_in 94 (by decide +kernel) rfl
theorem fl_X5_20 : Cond.fieldLink RX5 20 "SaltToLiars$Reader" "place" "I" ∈ LT := LT_in 95 (by decide +kernel) rfl
theorem cl_X10_23 : Cond.classLink RX10 23 "SaltToLiars$Evening" ∈ LT := LT_in 101 (by decide +kernel) rfl
theorem ml_X10_25 : Cond.methodLink RX10 25 yX0_init ∈ LT := LT_in 103 (by decide +kernel) rfl
theorem ml_X0_3 : Cond.methodLink RX0 3 objectInit ∈ LT := LT_in 106 (by decide +kernel) rfl
theorem cl_X0_15 : Cond.classLink RX0 15 "SaltToLiars$Round" ∈ LT := LT_in 107 (by decide +kernel) rfl
theorem ml_X0_21 : Cond.methodLinkNest RX0 21 yX6_init "SaltToLiars" ∈ NL := NL_in 110 (by decide +kernel) rfl
theorem ml_X6_1 : Cond.methodLink RX6 1 objectInit ∈ LT := LT_in 113 (by decide +kernel) rfl
theorem fl_X6_9 : Cond.fieldLink RX6 9 "SaltToLiars$Round" "who" "[I" ∈ LT := LT_in 114 (by decide +kernel) rfl
theorem fl_X0_87 : Cond.fieldLink RX0 87 "SaltToLiars$Round" "who" "[I" ∈ LT := LT_in 115 (by decide +kernel) rfl
theorem fl_X8_86 : Cond.fieldLink RX8 86 "SaltToLiars$Round" "who" "[I" ∈ LT := LT_in 116 (by decide +kernel) rfl
theorem fl_X6_13 : Cond.fieldLink RX6 13 "SaltToLiars$Round" "topic" "[I" ∈ LT := LT_in 117 (by decide +kernel) rfl
theorem fl_X6_16 : Cond.fieldLink RX6 16 "SaltToLiars$Round" "said" "[Z" ∈ LT := LT_in 118 (by decide +kernel) rfl
theorem fl_X6_20 : Cond.fieldLink RX6 20 "SaltToLiars$Round" "spoke" "I" ∈ LT := LT_in 119 (by decide +kernel) rfl
theorem fl_X0_76 : Cond.fieldLink RX0 76 "SaltToLiars$Round" "spoke" "I" ∈ LT := LT_in 120 (by decide +kernel) rfl
theorem fl_X10_190 : Cond.fieldLink RX10 190 "SaltToLiars$Round" "spoke" "I" ∈ LT := LT_in 121 (by decide +kernel) rfl
theorem fl_X9_64 : Cond.fieldLink RX9 64 "SaltToLiars$Round" "from" "I" ∈ LT := LT_in 122 (by decide +kernel) rfl
theorem fl_X0_54 : Cond.fieldLink RX0 54 "SaltToLiars$Round" "from" "I" ∈ LT := LT_in 123 (by decide +kernel) rfl
theorem fl_X6_34 : Cond.fieldLink RX6 34 "SaltToLiars$Round" "from" "I" ∈ LT := LT_in 124 (by decide +kernel) rfl
theorem fl_X10_184 : Cond.fieldLink RX10 184 "SaltToLiars$Round" "from" "I" ∈ LT := LT_in 125 (by decide +kernel) rfl
theorem fl_X9_71 : Cond.fieldLink RX9 71 "SaltToLiars$Round" "to" "I" ∈ LT := LT_in 126 (by decide +kernel) rfl
theorem fl_X0_67 : Cond.fieldLink RX0 67 "SaltToLiars$Round" "to" "I" ∈ LT := LT_in 127 (by decide +kernel) rfl
theorem fl_X6_37 : Cond.fieldLink RX6 37 "SaltToLiars$Round" "to" "I" ∈ LT := LT_in 128 (by decide +kernel) rfl
theorem fl_X10_187 : Cond.fieldLink RX10 187 "SaltToLiars$Round" "to" "I" ∈ LT := LT_in 129 (by decide +kernel) rfl
theorem fl_X0_70 : Cond.fieldLink RX0 70 "SaltToLiars$Round" "trailBefore" "I" ∈ LT := LT_in 130 (by decide +kernel) rfl
theorem fl_X6_40 : Cond.fieldLink RX6 40 "SaltToLiars$Round" "trailBefore" "I" ∈ LT := LT_in 131 (by decide +kernel) rfl
theorem fl_X0_73 : Cond.fieldLink RX0 73 "SaltToLiars$Round" "liars" "I" ∈ LT := LT_in 132 (by decide +kernel) rfl
theorem fl_X6_43 : Cond.fieldLink RX6 43 "SaltToLiars$Round" "liars" "I" ∈ LT := LT_in 133 (by decide +kernel) rfl
theorem fl_X0_26 : Cond.fieldLink RX0 26 "SaltToLiars$Evening" "salt" "I" ∈ LT := LT_in 152 (by decide +kernel) rfl
theorem fl_X10_131 : Cond.fieldLink RX10 131 "SaltToLiars$Evening" "salt" "I" ∈ LT := LT_in 153 (by decide +kernel) rfl
theorem fl_X0_29 : Cond.fieldLink RX0 29 "SaltToLiars$Evening" "rounds" "I" ∈ LT := LT_in 154 (by decide +kernel) rfl
theorem fl_X10_295 : Cond.fieldLink RX10 295 "SaltToLiars$Evening" "rounds" "I" ∈ LT := LT_in 155 (by decide +kernel) rfl
theorem fl_X0_32 : Cond.fieldLink RX0 32 "SaltToLiars$Evening" "untruths" "I" ∈ LT := LT_in 156 (by decide +kernel) rfl
theorem fl_X10_298 : Cond.fieldLink RX10 298 "SaltToLiars$Evening" "untruths" "I" ∈ LT := LT_in 157 (by decide +kernel) rfl
theorem fl_X0_35 : Cond.fieldLink RX0 35 "SaltToLiars$Evening" "trail" "I" ∈ LT := LT_in 158 (by decide +kernel) rfl
theorem fl_X10_271 : Cond.fieldLink RX10 271 "SaltToLiars$Evening" "trail" "I" ∈ LT := LT_in 159 (by decide +kernel) rfl
theorem fl_X0_38 : Cond.fieldLink RX0 38 "SaltToLiars$Evening" "undoable" "I" ∈ LT := LT_in 160 (by decide +kernel) rfl
theorem fl_X10_171 : Cond.fieldLink RX10 171 "SaltToLiars$Evening" "undoable" "I" ∈ LT := LT_in 161 (by decide +kernel) rfl
theorem fl_X0_11 : Cond.fieldLink RX0 11 "SaltToLiars$Evening" "lied" "[I" ∈ LT := LT_in 162 (by decide +kernel) rfl
theorem fl_X10_128 : Cond.fieldLink RX10 128 "SaltToLiars$Evening" "lied" "[I" ∈ LT := LT_in 163 (by decide +kernel) rfl
theorem fl_X0_17 : Cond.fieldLink RX0 17 "SaltToLiars$Evening" "ring" "[LSaltToLiars$Round;" ∈ LT := LT_in 164 (by decide +kernel) rfl
theorem cl_X10_34 : Cond.classLink RX10 34 "SaltToLiars$Ways" ∈ LT := LT_in 181 (by decide +kernel) rfl
theorem ml_X10_36 : Cond.methodLinkNest RX10 36 yX9_init "SaltToLiars" ∈ NL := NL_in 183 (by decide +kernel) rfl
theorem ml_X9_3 : Cond.methodLink RX9 3 objectInit ∈ LT := LT_in 186 (by decide +kernel) rfl
theorem cl_X9_17 : Cond.classLink RX9 17 "SaltToLiars$Round" ∈ LT := LT_in 187 (by decide +kernel) rfl
theorem ml_X9_19 : Cond.methodLinkNest RX9 19 yX6_init "SaltToLiars" ∈ NL := NL_in 188 (by decide +kernel) rfl
theorem fl_X9_24 : Cond.fieldLink RX9 24 "SaltToLiars$Ways" "fitting" "I" ∈ LT := LT_in 189 (by decide +kernel) rfl
theorem fl_X10_197 : Cond.fieldLink RX10 197 "SaltToLiars$Ways" "fitting" "I" ∈ LT := LT_in 190 (by decide +kernel) rfl
theorem fl_X9_28 : Cond.fieldLink RX9 28 "SaltToLiars$Ways" "lowest" "I" ∈ LT := LT_in 191 (by decide +kernel) rfl
theorem fl_X10_200 : Cond.fieldLink RX10 200 "SaltToLiars$Ways" "lowest" "I" ∈ LT := LT_in 192 (by decide +kernel) rfl
theorem fl_X9_35 : Cond.fieldLink RX9 35 "SaltToLiars$Ways" "alwaysSo" "I" ∈ LT := LT_in 193 (by decide +kernel) rfl
theorem fl_X10_203 : Cond.fieldLink RX10 203 "SaltToLiars$Ways" "alwaysSo" "I" ∈ LT := LT_in 194 (by decide +kernel) rfl
theorem fl_X9_38 : Cond.fieldLink RX9 38 "SaltToLiars$Ways" "neverSo" "I" ∈ LT := LT_in 195 (by decide +kernel) rfl
theorem fl_X10_206 : Cond.fieldLink RX10 206 "SaltToLiars$Ways" "neverSo" "I" ∈ LT := LT_in 196 (by decide +kernel) rfl
theorem fl_X9_77 : Cond.fieldLink RX9 77 "SaltToLiars$Ways" "question" "I" ∈ LT := LT_in 197 (by decide +kernel) rfl
theorem fl_X10_217 : Cond.fieldLink RX10 217 "SaltToLiars$Ways" "question" "I" ∈ LT := LT_in 198 (by decide +kernel) rfl
theorem fl_X9_80 : Cond.fieldLink RX9 80 "SaltToLiars$Ways" "worst" "I" ∈ LT := LT_in 199 (by decide +kernel) rfl
theorem fl_X10_220 : Cond.fieldLink RX10 220 "SaltToLiars$Ways" "worst" "I" ∈ LT := LT_in 200 (by decide +kernel) rfl
theorem fl_X9_11 : Cond.fieldLink RX9 11 "SaltToLiars$Ways" "fittingWhereSo" "[I" ∈ LT := LT_in 201 (by decide +kernel) rfl
theorem fl_X9_20 : Cond.fieldLink RX9 20 "SaltToLiars$Ways" "probe" "LSaltToLiars$Round;" ∈ LT := LT_in 202 (by decide +kernel) rfl
theorem cl_X10_41 : Cond.classLink RX10 41 "SaltToLiars$Paths" ∈ LT := LT_in 220 (by decide +kernel) rfl
theorem ml_X10_43 : Cond.methodLinkNest RX10 43 yX4_init "SaltToLiars" ∈ NL := NL_in 222 (by decide +kernel) rfl
theorem ml_X4_3 : Cond.methodLink RX4 3 objectInit ∈ LT := LT_in 225 (by decide +kernel) rfl
theorem cl_X4_20 : Cond.classLink RX4 20 "SaltToLiars$Round" ∈ LT := LT_in 226 (by decide +kernel) rfl
theorem ml_X4_22 : Cond.methodLinkNest RX4 22 yX6_init "SaltToLiars" ∈ NL := NL_in 227 (by decide +kernel) rfl
theorem fl_X4_11 : Cond.fieldLink RX4 11 "SaltToLiars$Paths" "cost" "[I" ∈ LT := LT_in 228 (by decide +kernel) rfl
theorem fl_X4_17 : Cond.fieldLink RX4 17 "SaltToLiars$Paths" "next" "[I" ∈ LT := LT_in 229 (by decide +kernel) rfl
theorem fl_X4_23 : Cond.fieldLink RX4 23 "SaltToLiars$Paths" "probe" "LSaltToLiars$Round;" ∈ LT := LT_in 230 (by decide +kernel) rfl
theorem cl_X10_48 : Cond.classLink RX10 48 "SaltToLiars$Pact" ∈ LT := LT_in 238 (by decide +kernel) rfl
theorem ml_X10_50 : Cond.methodLinkNest RX10 50 yX3_init "SaltToLiars" ∈ NL := NL_in 240 (by decide +kernel) rfl
theorem ml_X3_3 : Cond.methodLink RX3 3 objectInit ∈ LT := LT_in 243 (by decide +kernel) rfl
theorem cl_X3_24 : Cond.classLink RX3 24 "SaltToLiars$Round" ∈ LT := LT_in 244 (by decide +kernel) rfl
theorem ml_X3_26 : Cond.methodLinkNest RX3 26 yX6_init "SaltToLiars" ∈ NL := NL_in 245 (by decide +kernel) rfl
theorem fl_X3_35 : Cond.fieldLink RX3 35 "SaltToLiars$Pact" "steady" "I" ∈ LT := LT_in 246 (by decide +kernel) rfl
theorem fl_X10_252 : Cond.fieldLink RX10 252 "SaltToLiars$Pact" "steady" "I" ∈ LT := LT_in 247 (by decide +kernel) rfl
theorem fl_X3_39 : Cond.fieldLink RX3 39 "SaltToLiars$Pact" "firstSteady" "I" ∈ LT := LT_in 248 (by decide +kernel) rfl
theorem fl_X10_255 : Cond.fieldLink RX10 255 "SaltToLiars$Pact" "firstSteady" "I" ∈ LT := LT_in 249 (by decide +kernel) rfl
theorem fl_X3_9 : Cond.fieldLink RX3 9 "SaltToLiars$Pact" "who" "[I" ∈ LT := LT_in 250 (by decide +kernel) rfl
theorem fl_X3_15 : Cond.fieldLink RX3 15 "SaltToLiars$Pact" "topic" "[I" ∈ LT := LT_in 251 (by decide +kernel) rfl
theorem fl_X3_18 : Cond.fieldLink RX3 18 "SaltToLiars$Pact" "firstHas" "[I" ∈ LT := LT_in 252 (by decide +kernel) rfl
theorem fl_X3_21 : Cond.fieldLink RX3 21 "SaltToLiars$Pact" "otherHas" "[I" ∈ LT := LT_in 253 (by decide +kernel) rfl
theorem fl_X3_27 : Cond.fieldLink RX3 27 "SaltToLiars$Pact" "probe" "LSaltToLiars$Round;" ∈ LT := LT_in 254 (by decide +kernel) rfl
theorem cl_X10_55 : Cond.classLink RX10 55 "SaltToLiars$Sayings" ∈ LT := LT_in 270 (by decide +kernel) rfl
theorem ml_X10_57 : Cond.methodLinkNest RX10 57 yX7_init "SaltToLiars" ∈ NL := NL_in 272 (by decide +kernel) rfl
theorem ml_X7_3 : Cond.methodLink RX7 3 objectInit ∈ LT := LT_in 275 (by decide +kernel) rfl
theorem fl_X7_19 : Cond.fieldLink RX7 19 "SaltToLiars$Sayings" "size" "I" ∈ LT := LT_in 276 (by decide +kernel) rfl
theorem fl_X10_261 : Cond.fieldLink RX10 261 "SaltToLiars$Sayings" "size" "I" ∈ LT := LT_in 277 (by decide +kernel) rfl
theorem fl_X7_11 : Cond.fieldLink RX7 11 "SaltToLiars$Sayings" "who" "[I" ∈ LT := LT_in 278 (by decide +kernel) rfl
theorem fl_X7_15 : Cond.fieldLink RX7 15 "SaltToLiars$Sayings" "said" "[Z" ∈ LT := LT_in 279 (by decide +kernel) rfl
theorem cl_X10_62 : Cond.classLink RX10 62 "SaltToLiars$Feast" ∈ LT := LT_in 287 (by decide +kernel) rfl
theorem ml_X10_64 : Cond.methodLinkNest RX10 64 yX1_init "SaltToLiars" ∈ NL := NL_in 289 (by decide +kernel) rfl
theorem ml_X1_1 : Cond.methodLink RX1 1 objectInit ∈ LT := LT_in 292 (by decide +kernel) rfl
theorem cl_X1_7 : Cond.classLink RX1 7 "SaltToLiars$Round" ∈ LT := LT_in 293 (by decide +kernel) rfl
theorem ml_X1_9 : Cond.methodLinkNest RX1 9 yX6_init "SaltToLiars" ∈ NL := NL_in 294 (by decide +kernel) rfl
theorem fl_X1_16 : Cond.fieldLink RX1 16 "SaltToLiars$Feast" "salt" "I" ∈ LT := LT_in 295 (by decide +kernel) rfl
theorem fl_X10_278 : Cond.fieldLink RX10 278 "SaltToLiars$Feast" "salt" "I" ∈ LT := LT_in 296 (by decide +kernel) rfl
theorem fl_X1_20 : Cond.fieldLink RX1 20 "SaltToLiars$Feast" "untruths" "I" ∈ LT := LT_in 297 (by decide +kernel) rfl
theorem fl_X10_279 : Cond.fieldLink RX10 279 "SaltToLiars$Feast" "untruths" "I" ∈ LT := LT_in 298 (by decide +kernel) rfl
theorem fl_X1_10 : Cond.fieldLink RX1 10 "SaltToLiars$Feast" "probe" "LSaltToLiars$Round;" ∈ LT := LT_in 299 (by decide +kernel) rfl
theorem cl_X10_69 : Cond.classLink RX10 69 "SaltToLiars$Table" ∈ LT := LT_in 307 (by decide +kernel) rfl
theorem ml_X10_71 : Cond.methodLinkNest RX10 71 yX8_init "SaltToLiars" ∈ NL := NL_in 309 (by decide +kernel) rfl
theorem ml_X8_1 : Cond.methodLink RX8 1 objectInit ∈ LT := LT_in 312 (by decide +kernel) rfl
theorem fl_X8_22 : Cond.fieldLink RX8 22 "SaltToLiars$Table" "guests" "I" ∈ LT := LT_in 313 (by decide +kernel) rfl
theorem fl_X4_27 : Cond.fieldLink RX4 27 "SaltToLiars$Table" "guests" "I" ∈ LT := LT_in 314 (by decide +kernel) rfl
theorem fl_X1_27 : Cond.fieldLink RX1 27 "SaltToLiars$Table" "guests" "I" ∈ LT := LT_in 315 (by decide +kernel) rfl
theorem fl_X10_112 : Cond.fieldLink RX10 112 "SaltToLiars$Table" "guests" "I" ∈ LT := LT_in 316 (by decide +kernel) rfl
theorem fl_X9_83 : Cond.fieldLink RX9 83 "SaltToLiars$Table" "guests" "I" ∈ LT := LT_in 317 (by decide +kernel) rfl
theorem fl_X8_26 : Cond.fieldLink RX8 26 "SaltToLiars$Table" "things" "I" ∈ LT := LT_in 318 (by decide +kernel) rfl
theorem fl_X9_41 : Cond.fieldLink RX9 41 "SaltToLiars$Table" "things" "I" ∈ LT := LT_in 319 (by decide +kernel) rfl
theorem fl_X1_35 : Cond.fieldLink RX1 35 "SaltToLiars$Table" "things" "I" ∈ LT := LT_in 320 (by decide +kernel) rfl
theorem fl_X4_38 : Cond.fieldLink RX4 38 "SaltToLiars$Table" "things" "I" ∈ LT := LT_in 321 (by decide +kernel) rfl
theorem fl_X10_289 : Cond.fieldLink RX10 289 "SaltToLiars$Table" "things" "I" ∈ LT := LT_in 322 (by decide +kernel) rfl
theorem fl_X8_29 : Cond.fieldLink RX8 29 "SaltToLiars$Table" "law" "I" ∈ LT := LT_in 323 (by decide +kernel) rfl
theorem fl_X9_44 : Cond.fieldLink RX9 44 "SaltToLiars$Table" "law" "I" ∈ LT := LT_in 324 (by decide +kernel) rfl
theorem fl_X1_56 : Cond.fieldLink RX1 56 "SaltToLiars$Table" "law" "I" ∈ LT := LT_in 325 (by decide +kernel) rfl
theorem fl_X3_49 : Cond.fieldLink RX3 49 "SaltToLiars$Table" "law" "I" ∈ LT := LT_in 326 (by decide +kernel) rfl
theorem fl_X0_57 : Cond.fieldLink RX0 57 "SaltToLiars$Table" "law" "I" ∈ LT := LT_in 327 (by decide +kernel) rfl
theorem fl_X4_59 : Cond.fieldLink RX4 59 "SaltToLiars$Table" "law" "I" ∈ LT := LT_in 328 (by decide +kernel) rfl
theorem fl_X10_292 : Cond.fieldLink RX10 292 "SaltToLiars$Table" "law" "I" ∈ LT := LT_in 329 (by decide +kernel) rfl
theorem fl_X0_22 : Cond.fieldLink RX0 22 "SaltToLiars$Table" "start" "I" ∈ LT := LT_in 330 (by decide +kernel) rfl
theorem fl_X8_32 : Cond.fieldLink RX8 32 "SaltToLiars$Table" "start" "I" ∈ LT := LT_in 331 (by decide +kernel) rfl
theorem fl_X8_35 : Cond.fieldLink RX8 35 "SaltToLiars$Table" "truths" "I" ∈ LT := LT_in 332 (by decide +kernel) rfl
theorem fl_X1_45 : Cond.fieldLink RX1 45 "SaltToLiars$Table" "truths" "I" ∈ LT := LT_in 333 (by decide +kernel) rfl
theorem fl_X3_54 : Cond.fieldLink RX3 54 "SaltToLiars$Table" "truths" "I" ∈ LT := LT_in 334 (by decide +kernel) rfl
theorem fl_X9_74 : Cond.fieldLink RX9 74 "SaltToLiars$Table" "truths" "I" ∈ LT := LT_in 335 (by decide +kernel) rfl
theorem fl_X4_52 : Cond.fieldLink RX4 52 "SaltToLiars$Table" "truths" "I" ∈ LT := LT_in 336 (by decide +kernel) rfl
theorem fl_X0_60 : Cond.fieldLink RX0 60 "SaltToLiars$Table" "truths" "I" ∈ LT := LT_in 337 (by decide +kernel) rfl
theorem fl_X10_141 : Cond.fieldLink RX10 141 "SaltToLiars$Table" "truths" "I" ∈ LT := LT_in 338 (by decide +kernel) rfl
theorem fl_X8_9 : Cond.fieldLink RX8 9 "SaltToLiars$Table" "kind" "[I" ∈ LT := LT_in 339 (by decide +kernel) rfl
theorem fl_X10_118 : Cond.fieldLink RX10 118 "SaltToLiars$Table" "kind" "[I" ∈ LT := LT_in 340 (by decide +kernel) rfl
theorem fl_X8_13 : Cond.fieldLink RX8 13 "SaltToLiars$Table" "honesty" "[I" ∈ LT := LT_in 341 (by decide +kernel) rfl
theorem fl_X1_38 : Cond.fieldLink RX1 38 "SaltToLiars$Table" "honesty" "[I" ∈ LT := LT_in 342 (by decide +kernel) rfl
theorem fl_X7_23 : Cond.fieldLink RX7 23 "SaltToLiars$Table" "honesty" "[I" ∈ LT := LT_in 343 (by decide +kernel) rfl
theorem fl_X10_122 : Cond.fieldLink RX10 122 "SaltToLiars$Table" "honesty" "[I" ∈ LT := LT_in 344 (by decide +kernel) rfl
theorem fl_X8_16 : Cond.fieldLink RX8 16 "SaltToLiars$Table" "known" "[I" ∈ LT := LT_in 345 (by decide +kernel) rfl
theorem fl_X10_125 : Cond.fieldLink RX10 125 "SaltToLiars$Table" "known" "[I" ∈ LT := LT_in 346 (by decide +kernel) rfl
theorem fl_X8_19 : Cond.fieldLink RX8 19 "SaltToLiars$Table" "heft" "[I" ∈ LT := LT_in 347 (by decide +kernel) rfl
theorem fl_X10_148 : Cond.fieldLink RX10 148 "SaltToLiars$Table" "heft" "[I" ∈ LT := LT_in 348 (by decide +kernel) rfl
theorem ml_X10_81 : Cond.methodLink RX10 81 yJ0_length_8abf5 ∈ LT := LT_in 369 (by decide +kernel) rfl
theorem ml_J0_335 : Cond.methodLink RJ0 335 yJ0_coder_7d493 ∈ LT := LT_in 373 (by decide +kernel) rfl
theorem fl_J0_38 : Cond.fieldLink RJ0 38 "java/lang/String" "COMPACT_STRINGS" "Z" ∈ LT := LT_in 377 (by decide +kernel) rfl
theorem ml_X10_87 : Cond.methodLink RX10 87 yJ0_charAt_5068e ∈ LT := LT_in 379 (by decide +kernel) rfl
theorem ml_J0_492 : Cond.methodLink RJ0 492 yJ0_isLatin1_aae02 ∈ LT := LT_in 383 (by decide +kernel) rfl
theorem ml_J0_495 : Cond.methodLink RJ0 495 yJ1_charAt_3b067 ∈ LT := LT_in 387 (by decide +kernel) rfl
theorem ml_J1_9 : Cond.methodLink RJ1 9 yJ0_checkIndex_df160 ∈ LT := LT_in 390 (by decide +kernel) rfl
theorem fl_J0_1053 : Cond.fieldLink RJ0 1053 "jdk/internal/util/Preconditions" "SIOOBE_FORMATTER" "Ljava/util/function/BiFunction;" ∈ LT := LT_in 393 (by decide +kernel) rfl
theorem ml_J0_1059 : Cond.methodLink RJ0 1059 yJ3_checkIndex_8e157 ∈ LT := LT_in 395 (by decide +kernel) rfl
theorem ml_J0_498 : Cond.methodLink RJ0 498 yJ2_charAt_3b067 ∈ LT := LT_in 398 (by decide +kernel) rfl
theorem ml_J2_67 : Cond.methodLink RJ2 67 yJ2_checkIndex_2214a ∈ LT := LT_in 401 (by decide +kernel) rfl
theorem ml_J2_48 : Cond.methodLink RJ2 48 yJ2_length_9d52b ∈ LT := LT_in 404 (by decide +kernel) rfl
theorem ml_J2_414 : Cond.methodLink RJ2 414 yJ0_checkIndex_df160 ∈ LT := LT_in 407 (by decide +kernel) rfl
theorem ml_J2_71 : Cond.methodLink RJ2 71 yJ2_getChar_3b067 ∈ LT := LT_in 408 (by decide +kernel) rfl
theorem fl_J2_44 : Cond.fieldLink RJ2 44 "java/lang/StringUTF16" "$assertionsDisabled" "Z" ∈ LT := LT_in 411 (by decide +kernel) rfl
theorem fl_J2_59 : Cond.fieldLink RJ2 59 "java/lang/StringUTF16" "HI_BYTE_SHIFT" "I" ∈ LT := LT_in 413 (by decide +kernel) rfl
theorem fl_J2_63 : Cond.fieldLink RJ2 63 "java/lang/StringUTF16" "LO_BYTE_SHIFT" "I" ∈ LT := LT_in 415 (by decide +kernel) rfl
theorem ml_X10_91 : Cond.methodLink RX10 91 yX2_add ∈ LT := LT_in 417 (by decide +kernel) rfl
theorem ml_X10_95 : Cond.methodLink RX10 95 yX5_read ∈ LT := LT_in 421 (by decide +kernel) rfl
theorem ml_X5_15 : Cond.methodLink RX5 15 yX8_clear ∈ LT := LT_in 425 (by decide +kernel) rfl
theorem ml_X5_29 : Cond.methodLink RX5 29 yX2_at ∈ LT := LT_in 429 (by decide +kernel) rfl
theorem ml_X5_33 : Cond.methodLink RX5 33 yX5_howMany ∈ LT := LT_in 433 (by decide +kernel) rfl
theorem ml_X5_36 : Cond.methodLink RX5 36 yX5_readNumbers ∈ LT := LT_in 436 (by decide +kernel) rfl
theorem ml_X5_44 : Cond.methodLink RX5 44 yX5_readNumber ∈ LT := LT_in 440 (by decide +kernel) rfl
theorem ml_X5_47 : Cond.methodLink RX5 47 yX5_isFigure ∈ LT := LT_in 444 (by decide +kernel) rfl
theorem ml_X5_40 : Cond.methodLink RX5 40 yX8_take ∈ LT := LT_in 447 (by decide +kernel) rfl
theorem ml_X8_38 : Cond.methodLink RX8 38 yX8_takeGuest ∈ LT := LT_in 451 (by decide +kernel) rfl
theorem ml_X8_42 : Cond.methodLink RX8 42 yX8_takeThing ∈ LT := LT_in 455 (by decide +kernel) rfl
theorem ml_X8_46 : Cond.methodLink RX8 46 yX8_takeLaw ∈ LT := LT_in 459 (by decide +kernel) rfl
theorem ml_X8_50 : Cond.methodLink RX8 50 yX8_takeStart ∈ LT := LT_in 463 (by decide +kernel) rfl
theorem ml_X10_99 : Cond.methodLink RX10 99 yX10_takeDraft ∈ LT := LT_in 467 (by decide +kernel) rfl
theorem ml_X10_299 : Cond.methodLink RX10 299 yX0_begin ∈ LT := LT_in 471 (by decide +kernel) rfl
theorem ml_X10_264 : Cond.methodLink RX10 264 yX7_clear ∈ LT := LT_in 475 (by decide +kernel) rfl
theorem ml_X10_102 : Cond.methodLink RX10 102 yX2_clear ∈ LT := LT_in 479 (by decide +kernel) rfl
theorem fl_X10_10 : Cond.fieldLink RX10 10 "SaltToLiars" "text" "LSaltToLiars$Letters;" ∈ LT := LT_in 483 (by decide +kernel) rfl
theorem fl_X10_19 : Cond.fieldLink RX10 19 "SaltToLiars" "reader" "LSaltToLiars$Reader;" ∈ LT := LT_in 484 (by decide +kernel) rfl
theorem fl_X10_26 : Cond.fieldLink RX10 26 "SaltToLiars" "evening" "LSaltToLiars$Evening;" ∈ LT := LT_in 485 (by decide +kernel) rfl
theorem fl_X10_30 : Cond.fieldLink RX10 30 "SaltToLiars" "kept" "[LSaltToLiars$Evening;" ∈ LT := LT_in 486 (by decide +kernel) rfl
theorem fl_X10_37 : Cond.fieldLink RX10 37 "SaltToLiars" "ways" "LSaltToLiars$Ways;" ∈ LT := LT_in 487 (by decide +kernel) rfl
theorem fl_X10_44 : Cond.fieldLink RX10 44 "SaltToLiars" "paths" "LSaltToLiars$Paths;" ∈ LT := LT_in 488 (by decide +kernel) rfl
theorem fl_X10_51 : Cond.fieldLink RX10 51 "SaltToLiars" "pact" "LSaltToLiars$Pact;" ∈ LT := LT_in 489 (by decide +kernel) rfl
theorem fl_X10_58 : Cond.fieldLink RX10 58 "SaltToLiars" "told" "LSaltToLiars$Sayings;" ∈ LT := LT_in 490 (by decide +kernel) rfl
theorem fl_X10_65 : Cond.fieldLink RX10 65 "SaltToLiars" "feast" "LSaltToLiars$Feast;" ∈ LT := LT_in 491 (by decide +kernel) rfl
theorem fl_X10_72 : Cond.fieldLink RX10 72 "SaltToLiars" "table" "LSaltToLiars$Table;" ∈ LT := LT_in 492 (by decide +kernel) rfl
theorem fl_X10_76 : Cond.fieldLink RX10 76 "SaltToLiars" "draft" "LSaltToLiars$Table;" ∈ LT := LT_in 493 (by decide +kernel) rfl
theorem fl_X10_282 : Cond.fieldLink RX10 282 "SaltToLiars" "keptNow" "I" ∈ LT := LT_in 494 (by decide +kernel) rfl
theorem ml_L_13 : Cond.methodLink RL 13 yX10_write ∈ LT := LT_in 521 (by decide +kernel) rfl
theorem ml_L_18 : Cond.methodLink RL 18 yX10_wipe ∈ LT := LT_in 525 (by decide +kernel) rfl
theorem ml_L_23 : Cond.methodLink RL 23 yX10_fault ∈ LT := LT_in 529 (by decide +kernel) rfl
theorem ml_L_27 : Cond.methodLink RL 27 yX10_lay ∈ LT := LT_in 533 (by decide +kernel) rfl
theorem ml_X10_108 : Cond.methodLink RX10 108 yX8_canBeLaid ∈ LT := LT_in 537 (by decide +kernel) rfl
theorem ml_L_31 : Cond.methodLink RL 31 yX10_guest ∈ LT := LT_in 541 (by decide +kernel) rfl
theorem ml_X10_115 : Cond.methodLink RX10 115 yX8_hasGuest ∈ LT := LT_in 545 (by decide +kernel) rfl
theorem ml_X10_134 : Cond.methodLink RX10 134 yX8_apart ∈ LT := LT_in 549 (by decide +kernel) rfl
theorem ml_X8_66 : Cond.methodLink RX8 66 yJ9_abs_0f7a4 ∈ LT := LT_in 553 (by decide +kernel) rfl
theorem ml_X8_70 : Cond.methodLink RX8 70 yJ9_min_7cf53 ∈ LT := LT_in 556 (by decide +kernel) rfl
theorem ml_L_36 : Cond.methodLink RL 36 yX10_thing ∈ LT := LT_in 559 (by decide +kernel) rfl
theorem ml_X10_138 : Cond.methodLink RX10 138 yX8_hasThing ∈ LT := LT_in 563 (by decide +kernel) rfl
theorem ml_X10_144 : Cond.methodLink RX10 144 yX8_isSo ∈ LT := LT_in 567 (by decide +kernel) rfl
theorem ml_L_40 : Cond.methodLink RL 40 yX10_weight ∈ LT := LT_in 570 (by decide +kernel) rfl
theorem ml_X10_151 : Cond.methodLink RX10 151 yX8_tally ∈ LT := LT_in 574 (by decide +kernel) rfl
theorem ml_L_44 : Cond.methodLink RL 44 yX10_say ∈ LT := LT_in 578 (by decide +kernel) rfl
theorem ml_X10_154 : Cond.methodLink RX10 154 yX0_upcoming ∈ LT := LT_in 582 (by decide +kernel) rfl
theorem ml_X0_41 : Cond.methodLink RX0 41 yJ9_floorMod_7cf53 ∈ LT := LT_in 586 (by decide +kernel) rfl
theorem ml_X10_158 : Cond.methodLink RX10 158 yX6_clear ∈ LT := LT_in 589 (by decide +kernel) rfl
theorem ml_X10_161 : Cond.methodLink RX10 161 yX6_add ∈ LT := LT_in 593 (by decide +kernel) rfl
theorem ml_X10_164 : Cond.methodLink RX10 164 yX0_play ∈ LT := LT_in 597 (by decide +kernel) rfl
theorem ml_X0_50 : Cond.methodLink RX0 50 yX0_upcoming ∈ LT := LT_in 601 (by decide +kernel) rfl
theorem ml_X0_63 : Cond.methodLink RX0 63 yX8_landing ∈ LT := LT_in 602 (by decide +kernel) rfl
theorem ml_X8_76 : Cond.methodLink RX8 76 yX6_tally ∈ LT := LT_in 606 (by decide +kernel) rfl
theorem ml_X6_24 : Cond.methodLink RX6 24 yX6_isUntruth ∈ LT := LT_in 610 (by decide +kernel) rfl
theorem ml_X6_28 : Cond.methodLink RX6 28 yX8_tally ∈ LT := LT_in 614 (by decide +kernel) rfl
theorem ml_X8_82 : Cond.methodLink RX8 82 yX8_towardDeaf ∈ LT := LT_in 615 (by decide +kernel) rfl
theorem ml_X8_96 : Cond.methodLink RX8 96 yX8_apart ∈ LT := LT_in 619 (by decide +kernel) rfl
theorem ml_X8_102 : Cond.methodLink RX8 102 yX6_isSpeaker ∈ LT := LT_in 620 (by decide +kernel) rfl
theorem ml_X8_93 : Cond.methodLink RX8 93 yX8_shorterWay ∈ LT := LT_in 624 (by decide +kernel) rfl
theorem ml_X8_73 : Cond.methodLink RX8 73 yX8_upward ∈ LT := LT_in 628 (by decide +kernel) rfl
theorem ml_X8_99 : Cond.methodLink RX8 99 yX8_remainder ∈ LT := LT_in 632 (by decide +kernel) rfl
theorem ml_X8_60 : Cond.methodLink RX8 60 yJ9_floorMod_7cf53 ∈ LT := LT_in 635 (by decide +kernel) rfl
theorem ml_X8_89 : Cond.methodLink RX8 89 yX8_pulled ∈ LT := LT_in 636 (by decide +kernel) rfl
theorem ml_X0_79 : Cond.methodLink RX0 79 yX6_isUntruth ∈ LT := LT_in 640 (by decide +kernel) rfl
theorem ml_X0_83 : Cond.methodLink RX0 83 yX0_countLiars ∈ LT := LT_in 641 (by decide +kernel) rfl
theorem ml_X0_47 : Cond.methodLink RX0 47 yJ9_min_7cf53 ∈ LT := LT_in 645 (by decide +kernel) rfl
theorem ml_L_49 : Cond.methodLink RL 49 yX10_sayBoth ∈ LT := LT_in 646 (by decide +kernel) rfl
theorem ml_X10_168 : Cond.methodLink RX10 168 yX10_arePair ∈ LT := LT_in 650 (by decide +kernel) rfl
theorem ml_L_54 : Cond.methodLink RL 54 yX10_hush ∈ LT := LT_in 654 (by decide +kernel) rfl
theorem ml_L_58 : Cond.methodLink RL 58 yX10_undo ∈ LT := LT_in 658 (by decide +kernel) rfl
theorem ml_X10_174 : Cond.methodLink RX10 174 yX0_takeBack ∈ LT := LT_in 662 (by decide +kernel) rfl
theorem ml_L_62 : Cond.methodLink RL 62 yX10_went ∈ LT := LT_in 666 (by decide +kernel) rfl
theorem ml_X10_177 : Cond.methodLink RX10 177 yX0_remembered ∈ LT := LT_in 670 (by decide +kernel) rfl
theorem ml_X10_180 : Cond.methodLink RX10 180 yX0_past ∈ LT := LT_in 674 (by decide +kernel) rfl
theorem ml_L_66 : Cond.methodLink RL 66 yX10_fits ∈ LT := LT_in 678 (by decide +kernel) rfl
theorem ml_X10_193 : Cond.methodLink RX10 193 yX9_sift ∈ LT := LT_in 682 (by decide +kernel) rfl
theorem ml_X9_31 : Cond.methodLink RX9 31 yX8_allThings ∈ LT := LT_in 686 (by decide +kernel) rfl
theorem ml_X9_47 : Cond.methodLink RX9 47 yX9_explains ∈ LT := LT_in 690 (by decide +kernel) rfl
theorem ml_X9_55 : Cond.methodLink RX9 55 yX0_remembered ∈ LT := LT_in 693 (by decide +kernel) rfl
theorem ml_X9_60 : Cond.methodLink RX9 60 yX0_past ∈ LT := LT_in 694 (by decide +kernel) rfl
theorem ml_X9_67 : Cond.methodLink RX9 67 yX8_landing ∈ LT := LT_in 695 (by decide +kernel) rfl
theorem ml_X9_51 : Cond.methodLink RX9 51 yX9_admit ∈ LT := LT_in 696 (by decide +kernel) rfl
theorem ml_L_70 : Cond.methodLink RL 70 yX10_sure ∈ LT := LT_in 700 (by decide +kernel) rfl
theorem ml_L_75 : Cond.methodLink RL 75 yX10_laws ∈ LT := LT_in 704 (by decide +kernel) rfl
theorem ml_X10_209 : Cond.methodLink RX10 209 yX9_possibleLaws ∈ LT := LT_in 708 (by decide +kernel) rfl
theorem ml_L_79 : Cond.methodLink RL 79 yX10_ask ∈ LT := LT_in 711 (by decide +kernel) rfl
theorem ml_X10_213 : Cond.methodLink RX10 213 yX9_findQuestion ∈ LT := LT_in 715 (by decide +kernel) rfl
theorem ml_X9_86 : Cond.methodLink RX9 86 yX9_mostAlike ∈ LT := LT_in 719 (by decide +kernel) rfl
theorem ml_X9_90 : Cond.methodLink RX9 90 yX6_clear ∈ LT := LT_in 723 (by decide +kernel) rfl
theorem ml_X9_93 : Cond.methodLink RX9 93 yX6_add ∈ LT := LT_in 724 (by decide +kernel) rfl
theorem ml_X9_97 : Cond.methodLink RX9 97 yJ9_max_7cf53 ∈ LT := LT_in 725 (by decide +kernel) rfl
theorem ml_L_83 : Cond.methodLink RL 83 yX10_fewest ∈ LT := LT_in 728 (by decide +kernel) rfl
theorem ml_X10_223 : Cond.methodLink RX10 223 yX4_begin ∈ LT := LT_in 732 (by decide +kernel) rfl
theorem ml_X10_226 : Cond.methodLink RX10 226 yX4_goOneRound ∈ LT := LT_in 736 (by decide +kernel) rfl
theorem ml_X4_31 : Cond.methodLink RX4 31 yX6_clear ∈ LT := LT_in 740 (by decide +kernel) rfl
theorem ml_X4_34 : Cond.methodLink RX4 34 yX4_spread ∈ LT := LT_in 741 (by decide +kernel) rfl
theorem ml_X4_55 : Cond.methodLink RX4 55 yX6_tally ∈ LT := LT_in 745 (by decide +kernel) rfl
theorem ml_X4_62 : Cond.methodLink RX4 62 yX8_landing ∈ LT := LT_in 746 (by decide +kernel) rfl
theorem ml_X4_66 : Cond.methodLink RX4 66 yJ9_min_7cf53 ∈ LT := LT_in 747 (by decide +kernel) rfl
theorem ml_X4_41 : Cond.methodLink RX4 41 yX8_knows ∈ LT := LT_in 748 (by decide +kernel) rfl
theorem ml_X8_53 : Cond.methodLink RX8 53 yX8_isSo ∈ LT := LT_in 752 (by decide +kernel) rfl
theorem ml_X4_45 : Cond.methodLink RX4 45 yX4_hear ∈ LT := LT_in 753 (by decide +kernel) rfl
theorem ml_X4_49 : Cond.methodLink RX4 49 yX6_add ∈ LT := LT_in 757 (by decide +kernel) rfl
theorem ml_X10_230 : Cond.methodLink RX10 230 yX4_costOf ∈ LT := LT_in 758 (by decide +kernel) rfl
theorem ml_L_87 : Cond.methodLink RL 87 yX10_story ∈ LT := LT_in 762 (by decide +kernel) rfl
theorem ml_X10_234 : Cond.methodLink RX10 234 yX8_knownBy ∈ LT := LT_in 766 (by decide +kernel) rfl
theorem ml_X8_56 : Cond.methodLink RX8 56 yX8_allThings ∈ LT := LT_in 770 (by decide +kernel) rfl
theorem ml_X10_237 : Cond.methodLink RX10 237 yX8_allThings ∈ LT := LT_in 771 (by decide +kernel) rfl
theorem ml_X10_240 : Cond.methodLink RX10 240 yJ6_bitCount_0f7a4 ∈ LT := LT_in 772 (by decide +kernel) rfl
theorem ck_J6_265 : Cond.constant RJ6 265 (1431655765) ∈ LT := LT_in 775 (by decide +kernel) rfl
theorem ck_J6_266 : Cond.constant RJ6 266 (858993459) ∈ LT := LT_in 776 (by decide +kernel) rfl
theorem ck_J6_267 : Cond.constant RJ6 267 (252645135) ∈ LT := LT_in 777 (by decide +kernel) rfl
theorem ml_L_91 : Cond.methodLink RL 91 yX10_rests ∈ LT := LT_in 778 (by decide +kernel) rfl
theorem ml_X10_245 : Cond.methodLink RX10 245 yX3_between ∈ LT := LT_in 782 (by decide +kernel) rfl
theorem ml_X10_249 : Cond.methodLink RX10 249 yX3_weigh ∈ LT := LT_in 786 (by decide +kernel) rfl
theorem ml_X3_31 : Cond.methodLink RX3 31 yX3_tryWay ∈ LT := LT_in 790 (by decide +kernel) rfl
theorem ml_X3_42 : Cond.methodLink RX3 42 yX6_clear ∈ LT := LT_in 794 (by decide +kernel) rfl
theorem ml_X3_45 : Cond.methodLink RX3 45 yX3_lie ∈ LT := LT_in 795 (by decide +kernel) rfl
theorem ml_X3_65 : Cond.methodLink RX3 65 yX8_isSo ∈ LT := LT_in 799 (by decide +kernel) rfl
theorem ml_X3_69 : Cond.methodLink RX3 69 yX6_add ∈ LT := LT_in 800 (by decide +kernel) rfl
theorem ml_X3_57 : Cond.methodLink RX3 57 yX8_landing ∈ LT := LT_in 801 (by decide +kernel) rfl
theorem ml_X3_61 : Cond.methodLink RX3 61 yX3_gain ∈ LT := LT_in 802 (by decide +kernel) rfl
theorem ml_X3_73 : Cond.methodLink RX3 73 yX8_tally ∈ LT := LT_in 806 (by decide +kernel) rfl
theorem ml_L_96 : Cond.methodLink RL 96 yX10_tell ∈ LT := LT_in 807 (by decide +kernel) rfl
theorem ml_X10_258 : Cond.methodLink RX10 258 yX7_add ∈ LT := LT_in 811 (by decide +kernel) rfl
theorem ml_L_101 : Cond.methodLink RL 101 yX10_forget ∈ LT := LT_in 815 (by decide +kernel) rfl
theorem ml_L_105 : Cond.methodLink RL 105 yX10_believe ∈ LT := LT_in 819 (by decide +kernel) rfl
theorem ck_X10_265 : Cond.constantLong RX10 265 (-1) ∈ LT := LT_in 823 (by decide +kernel) rfl
theorem ml_X10_267 : Cond.methodLink RX10 267 yX7_chance ∈ LT := LT_in 824 (by decide +kernel) rfl
theorem ml_X7_28 : Cond.methodLink RX7 28 yX7_commonDivisor ∈ LT := LT_in 828 (by decide +kernel) rfl
theorem ck_X7_32 : Cond.constantLong RX7 32 (-4) ∈ LT := LT_in 831 (by decide +kernel) rfl
theorem ml_L_110 : Cond.methodLink RL 110 yX10_trail ∈ LT := LT_in 832 (by decide +kernel) rfl
theorem ml_L_114 : Cond.methodLink RL 114 yX10_dinner ∈ LT := LT_in 836 (by decide +kernel) rfl
theorem ml_X10_274 : Cond.methodLink RX10 274 yX1_hold ∈ LT := LT_in 840 (by decide +kernel) rfl
theorem ml_X1_23 : Cond.methodLink RX1 23 yX1_drawn ∈ LT := LT_in 844 (by decide +kernel) rfl
theorem ck_X1_63 : Cond.constantLong RX1 63 (7919) ∈ LT := LT_in 847 (by decide +kernel) rfl
theorem ck_X1_65 : Cond.constantLong RX1 65 (6151) ∈ LT := LT_in 848 (by decide +kernel) rfl
theorem ck_X1_67 : Cond.constantLong RX1 67 (65521) ∈ LT := LT_in 849 (by decide +kernel) rfl
theorem ck_X1_69 : Cond.constantLong RX1 69 (8) ∈ LT := LT_in 850 (by decide +kernel) rfl
theorem ml_X1_32 : Cond.methodLink RX1 32 yX8_remainder ∈ LT := LT_in 851 (by decide +kernel) rfl
theorem ml_X1_42 : Cond.methodLink RX1 42 yX6_clear ∈ LT := LT_in 852 (by decide +kernel) rfl
theorem ml_X1_48 : Cond.methodLink RX1 48 yX8_isSo ∈ LT := LT_in 853 (by decide +kernel) rfl
theorem ml_X1_52 : Cond.methodLink RX1 52 yX6_add ∈ LT := LT_in 854 (by decide +kernel) rfl
theorem ml_X1_59 : Cond.methodLink RX1 59 yX8_landing ∈ LT := LT_in 855 (by decide +kernel) rfl
theorem ml_L_119 : Cond.methodLink RL 119 yX10_keep ∈ LT := LT_in 856 (by decide +kernel) rfl
theorem ml_X10_285 : Cond.methodLink RX10 285 yX0_copy ∈ LT := LT_in 860 (by decide +kernel) rfl
theorem ml_X0_90 : Cond.methodLink RX0 90 arraycopyName ∈ LT := LT_in 864 (by decide +kernel) rfl
theorem ml_X0_96 : Cond.methodLink RX0 96 yX6_copy ∈ LT := LT_in 867 (by decide +kernel) rfl
theorem ml_L_123 : Cond.methodLink RL 123 yX10_back ∈ LT := LT_in 871 (by decide +kernel) rfl
theorem ml_L_127 : Cond.methodLink RL 127 yX10_count ∈ LT := LT_in 875 (by decide +kernel) rfl
theorem cl_L_10 : Cond.classLink RL 10 "SaltToLiarsModel" ∈ LT := LT_in 879 (by decide +kernel) rfl
theorem ml_L_12 : Cond.methodLink RL 12 yX11_init ∈ LT := LT_in 881 (by decide +kernel) rfl
theorem ml_X11_1 : Cond.methodLink RX11 1 objectInit ∈ LT := LT_in 884 (by decide +kernel) rfl
theorem ml_X11_43 : Cond.methodLink RX11 43 yX11_begins ∈ LT := LT_in 885 (by decide +kernel) rfl
theorem ml_X11_46 : Cond.methodLink RX11 46 yX11_guestOf ∈ LT := LT_in 889 (by decide +kernel) rfl
theorem ml_X11_50 : Cond.methodLink RX11 50 yX11_thingOf ∈ LT := LT_in 893 (by decide +kernel) rfl
theorem ml_X11_54 : Cond.methodLink RX11 54 yX11_lays ∈ LT := LT_in 897 (by decide +kernel) rfl
theorem fl_X11_7 : Cond.fieldLink RX11 7 "SaltToLiarsModel" "text" "[I" ∈ LT := LT_in 901 (by decide +kernel) rfl
theorem fl_X11_61 : Cond.fieldLink RX11 61 "SaltToLiarsModel" "typed" "I" ∈ LT := LT_in 902 (by decide +kernel) rfl
theorem fl_X11_13 : Cond.fieldLink RX11 13 "SaltToLiarsModel" "told" "[I" ∈ LT := LT_in 903 (by decide +kernel) rfl
theorem fl_X11_16 : Cond.fieldLink RX11 16 "SaltToLiarsModel" "draft" "[I" ∈ LT := LT_in 904 (by decide +kernel) rfl
theorem fl_X11_19 : Cond.fieldLink RX11 19 "SaltToLiarsModel" "s" "[I" ∈ LT := LT_in 905 (by decide +kernel) rfl
theorem fl_X11_22 : Cond.fieldLink RX11 22 "SaltToLiarsModel" "past" "[I" ∈ LT := LT_in 906 (by decide +kernel) rfl
theorem fl_X11_87 : Cond.fieldLink RX11 87 "SaltToLiarsModel" "known" "I" ∈ LT := LT_in 907 (by decide +kernel) rfl
theorem fl_X11_25 : Cond.fieldLink RX11 25 "SaltToLiarsModel" "images" "[I" ∈ LT := LT_in 908 (by decide +kernel) rfl
theorem fl_X11_90 : Cond.fieldLink RX11 90 "SaltToLiarsModel" "kept" "I" ∈ LT := LT_in 909 (by decide +kernel) rfl
theorem fl_X11_28 : Cond.fieldLink RX11 28 "SaltToLiarsModel" "sayings" "[I" ∈ LT := LT_in 910 (by decide +kernel) rfl
theorem fl_X11_93 : Cond.fieldLink RX11 93 "SaltToLiarsModel" "said" "I" ∈ LT := LT_in 911 (by decide +kernel) rfl
theorem fl_X11_65 : Cond.fieldLink RX11 65 "SaltToLiarsModel" "at" "I" ∈ LT := LT_in 912 (by decide +kernel) rfl
theorem fl_X11_31 : Cond.fieldLink RX11 31 "SaltToLiarsModel" "ways" "[I" ∈ LT := LT_in 913 (by decide +kernel) rfl
theorem fl_X11_34 : Cond.fieldLink RX11 34 "SaltToLiarsModel" "sums" "[I" ∈ LT := LT_in 914 (by decide +kernel) rfl
theorem fl_X11_37 : Cond.fieldLink RX11 37 "SaltToLiarsModel" "behind" "[I" ∈ LT := LT_in 915 (by decide +kernel) rfl
theorem fl_X11_40 : Cond.fieldLink RX11 40 "SaltToLiarsModel" "held" "[I" ∈ LT := LT_in 916 (by decide +kernel) rfl
theorem ml_L_17 : Cond.methodLink RL 17 yX11_write ∈ LT := LT_in 950 (by decide +kernel) rfl
theorem ml_X11_57 : Cond.methodLink RX11 57 yX11_in ∈ LT := LT_in 954 (by decide +kernel) rfl
theorem ml_L_22 : Cond.methodLink RL 22 yX11_wipe ∈ LT := LT_in 957 (by decide +kernel) rfl
theorem ml_L_26 : Cond.methodLink RL 26 yX11_fault ∈ LT := LT_in 961 (by decide +kernel) rfl
theorem ml_X11_83 : Cond.methodLink RX11 83 yX11_reads ∈ LT := LT_in 965 (by decide +kernel) rfl
theorem ml_X11_80 : Cond.methodLink RX11 80 yX11_readsItem ∈ LT := LT_in 969 (by decide +kernel) rfl
theorem ml_X11_76 : Cond.methodLink RX11 76 yX11_number ∈ LT := LT_in 973 (by decide +kernel) rfl
theorem ml_X11_68 : Cond.methodLink RX11 68 yX11_letterAt ∈ LT := LT_in 977 (by decide +kernel) rfl
theorem ml_X11_72 : Cond.methodLink RX11 72 yX11_isFigure ∈ LT := LT_in 981 (by decide +kernel) rfl
theorem ml_L_30 : Cond.methodLink RL 30 yX11_lay ∈ LT := LT_in 984 (by decide +kernel) rfl
theorem ml_L_35 : Cond.methodLink RL 35 yX11_guest ∈ LT := LT_in 988 (by decide +kernel) rfl
theorem ml_X11_99 : Cond.methodLink RX11 99 yX11_isGuest ∈ LT := LT_in 992 (by decide +kernel) rfl
theorem ml_X11_102 : Cond.methodLink RX11 102 yX11_far ∈ LT := LT_in 996 (by decide +kernel) rfl
theorem ml_X11_96 : Cond.methodLink RX11 96 yX11_up ∈ LT := LT_in 1000 (by decide +kernel) rfl
theorem ml_L_39 : Cond.methodLink RL 39 yX11_thing ∈ LT := LT_in 1004 (by decide +kernel) rfl
theorem ml_X11_105 : Cond.methodLink RX11 105 yX11_isThing ∈ LT := LT_in 1008 (by decide +kernel) rfl
theorem ml_L_43 : Cond.methodLink RL 43 yX11_weight ∈ LT := LT_in 1012 (by decide +kernel) rfl
theorem ml_X11_108 : Cond.methodLink RX11 108 yX11_counts ∈ LT := LT_in 1016 (by decide +kernel) rfl
theorem ml_L_48 : Cond.methodLink RL 48 yX11_say ∈ LT := LT_in 1020 (by decide +kernel) rfl
theorem ml_X11_136 : Cond.methodLink RX11 136 yX11_keeps ∈ LT := LT_in 1024 (by decide +kernel) rfl
theorem ml_X11_139 : Cond.methodLink RX11 139 yX11_saying ∈ LT := LT_in 1028 (by decide +kernel) rfl
theorem ml_X11_143 : Cond.methodLink RX11 143 yX11_goes ∈ LT := LT_in 1031 (by decide +kernel) rfl
theorem ml_X11_128 : Cond.methodLink RX11 128 yX11_comes ∈ LT := LT_in 1035 (by decide +kernel) rfl
theorem ml_X11_115 : Cond.methodLink RX11 115 yX11_countsOf ∈ LT := LT_in 1039 (by decide +kernel) rfl
theorem ml_X11_118 : Cond.methodLink RX11 118 yX11_spokeOf ∈ LT := LT_in 1043 (by decide +kernel) rfl
theorem ml_X11_121 : Cond.methodLink RX11 121 yX11_hushed ∈ LT := LT_in 1046 (by decide +kernel) rfl
theorem ml_X11_111 : Cond.methodLink RX11 111 yX11_steps ∈ LT := LT_in 1050 (by decide +kernel) rfl
theorem ml_X11_124 : Cond.methodLink RX11 124 yX11_drawn ∈ LT := LT_in 1054 (by decide +kernel) rfl
theorem ml_X11_132 : Cond.methodLink RX11 132 yX11_lies ∈ LT := LT_in 1058 (by decide +kernel) rfl
theorem ml_L_53 : Cond.methodLink RL 53 yX11_sayBoth ∈ LT := LT_in 1062 (by decide +kernel) rfl
theorem ml_L_57 : Cond.methodLink RL 57 yX11_hush ∈ LT := LT_in 1066 (by decide +kernel) rfl
theorem ml_L_61 : Cond.methodLink RL 61 yX11_undo ∈ LT := LT_in 1070 (by decide +kernel) rfl
theorem ml_L_65 : Cond.methodLink RL 65 yX11_went ∈ LT := LT_in 1074 (by decide +kernel) rfl
theorem ml_L_69 : Cond.methodLink RL 69 yX11_fits ∈ LT := LT_in 1078 (by decide +kernel) rfl
theorem ml_X11_146 : Cond.methodLink RX11 146 yX11_isSo ∈ LT := LT_in 1082 (by decide +kernel) rfl
theorem ml_L_74 : Cond.methodLink RL 74 yX11_sure ∈ LT := LT_in 1086 (by decide +kernel) rfl
theorem ml_L_78 : Cond.methodLink RL 78 yX11_laws ∈ LT := LT_in 1090 (by decide +kernel) rfl
theorem ml_L_82 : Cond.methodLink RL 82 yX11_ask ∈ LT := LT_in 1094 (by decide +kernel) rfl
theorem ml_X11_150 : Cond.methodLink RX11 150 yX11_fits ∈ LT := LT_in 1098 (by decide +kernel) rfl
theorem ml_L_86 : Cond.methodLink RL 86 yX11_fewest ∈ LT := LT_in 1099 (by decide +kernel) rfl
theorem ml_X11_153 : Cond.methodLink RX11 153 yX11_leads ∈ LT := LT_in 1103 (by decide +kernel) rfl
theorem ml_L_90 : Cond.methodLink RL 90 yX11_story ∈ LT := LT_in 1107 (by decide +kernel) rfl
theorem ml_X11_156 : Cond.methodLink RX11 156 yX11_ones ∈ LT := LT_in 1111 (by decide +kernel) rfl
theorem ml_L_95 : Cond.methodLink RL 95 yX11_rests ∈ LT := LT_in 1114 (by decide +kernel) rfl
theorem ml_X11_159 : Cond.methodLink RX11 159 yX11_has ∈ LT := LT_in 1118 (by decide +kernel) rfl
theorem ml_L_100 : Cond.methodLink RL 100 yX11_tell ∈ LT := LT_in 1122 (by decide +kernel) rfl
theorem ml_L_104 : Cond.methodLink RL 104 yX11_forget ∈ LT := LT_in 1126 (by decide +kernel) rfl
theorem ml_L_109 : Cond.methodLink RL 109 yX11_believe ∈ LT := LT_in 1130 (by decide +kernel) rfl
theorem ck_X11_163 : Cond.constantLong RX11 163 (-1) ∈ LT := LT_in 1134 (by decide +kernel) rfl
theorem ck_X11_165 : Cond.constantLong RX11 165 (-4) ∈ LT := LT_in 1135 (by decide +kernel) rfl
theorem ml_L_113 : Cond.methodLink RL 113 yX11_trail ∈ LT := LT_in 1136 (by decide +kernel) rfl
theorem ml_L_118 : Cond.methodLink RL 118 yX11_dinner ∈ LT := LT_in 1140 (by decide +kernel) rfl
theorem ck_X11_167 : Cond.constantLong RX11 167 (7919) ∈ LT := LT_in 1144 (by decide +kernel) rfl
theorem ck_X11_169 : Cond.constantLong RX11 169 (6151) ∈ LT := LT_in 1145 (by decide +kernel) rfl
theorem ck_X11_171 : Cond.constantLong RX11 171 (65521) ∈ LT := LT_in 1146 (by decide +kernel) rfl
theorem ml_L_122 : Cond.methodLink RL 122 yX11_keep ∈ LT := LT_in 1147 (by decide +kernel) rfl
theorem ml_L_126 : Cond.methodLink RL 126 yX11_back ∈ LT := LT_in 1151 (by decide +kernel) rfl
theorem ml_L_130 : Cond.methodLink RL 130 yX11_count ∈ LT := LT_in 1155 (by decide +kernel) rfl
theorem fl_J0_9 : Cond.fieldLink RJ0 9 "java/lang/String" "value" "[B" ∈ LT := LT_in 1159 (by decide +kernel) rfl
theorem fl_J0_15 : Cond.fieldLink RJ0 15 "java/lang/String" "coder" "B" ∈ LT := LT_in 1160 (by decide +kernel) rfl
theorem pd_X0_init : M_X0_init.y.cls ≠ "java/lang/invoke/MethodHandle" ∧ M_X0_init.y.cls ≠ "java/lang/invoke/VarHandle" ∧ (parseMethodDescriptor M_X0_init.y.desc).map (fun d => d.parameters.length) = some 0 := ⟨by decide +kernel, by decide +kernel, by decide +kernel⟩
theorem pd_X0_begin : M_X0_begin.y.cls ≠ "java/lang/invoke/MethodHandle" ∧ M_X0_begin.y.cls ≠ "java/lang/invoke/VarHandle" ∧ (parseMethodDescriptor M_X0_begin.y.desc).map (fun d => d.parameters.length) = some 1 := ⟨by decide +kernel, by decide +kernel, by decide +kernel⟩
theorem pd_X0_upcoming : M_X0_upcoming.y.cls ≠ "java/lang/invoke/MethodHandle" ∧ M_X0_upcoming.y.cls ≠ "java/lang/invoke/VarHandle" ∧ (parseMethodDescriptor M_X0_upcoming.y.desc).map (fun d => d.parameters.length) = some 0 := ⟨by decide +kernel, by decide +kernel, by decide +kernel⟩
theorem pd_X0_remembered : M_X0_remembered.y.cls ≠ "java/lang/invoke/MethodHandle" ∧ M_X0_remembered.y.cls ≠ "java/lang/invoke/VarHandle" ∧ (parseMethodDescriptor M_X0_remembered.y.desc).map (fun d => d.parameters.length) = some 0 := ⟨by decide +kernel, by decide +kernel, by decide +kernel⟩
theorem pd_X0_past : M_X0_past.y.cls ≠ "java/lang/invoke/MethodHandle" ∧ M_X0_past.y.cls ≠ "java/lang/invoke/VarHandle" ∧ (parseMethodDescriptor M_X0_past.y.desc).map (fun d => d.parameters.length) = some 1 := ⟨by decide +kernel, by decide +kernel, by decide +kernel⟩
theorem pd_X0_play : M_X0_play.y.cls ≠ "java/lang/invoke/MethodHandle" ∧ M_X0_play.y.cls ≠ "java/lang/invoke/VarHandle" ∧ (parseMethodDescriptor M_X0_play.y.desc).map (fun d => d.parameters.length) = some 1 := ⟨by decide +kernel, by decide +kernel, by decide +kernel⟩
theorem pd_X0_takeBack : M_X0_takeBack.y.cls ≠ "java/lang/invoke/MethodHandle" ∧ M_X0_takeBack.y.cls ≠ "java/lang/invoke/VarHandle" ∧ (parseMethodDescriptor M_X0_takeBack.y.desc).map (fun d => d.parameters.length) = some 0 := ⟨by decide +kernel, by decide +kernel, by decide +kernel⟩
theorem pd_X0_countLiars : M_X0_countLiars.y.cls ≠ "java/lang/invoke/MethodHandle" ∧ M_X0_countLiars.y.cls ≠ "java/lang/invoke/VarHandle" ∧ (parseMethodDescriptor M_X0_countLiars.y.desc).map (fun d => d.parameters.length) = some 2 := ⟨by decide +kernel, by decide +kernel, by decide +kernel⟩
theorem pd_X0_copy : M_X0_copy.y.cls ≠ "java/lang/invoke/MethodHandle" ∧ M_X0_copy.y.cls ≠ "java/lang/invoke/VarHandle" ∧ (parseMethodDescriptor M_X0_copy.y.desc).map (fun d => d.parameters.length) = some 1 := ⟨by decide +kernel, by decide +kernel, by decide +kernel⟩
theorem pd_X1_init : M_X1_init.y.cls ≠ "java/lang/invoke/MethodHandle" ∧ M_X1_init.y.cls ≠ "java/lang/invoke/VarHandle" ∧ (parseMethodDescriptor M_X1_init.y.desc).map (fun d => d.parameters.length) = some 0 := ⟨by decide +kernel, by decide +kernel, by decide +kernel⟩
theorem pd_X1_hold : M_X1_hold.y.cls ≠ "java/lang/invoke/MethodHandle" ∧ M_X1_hold.y.cls ≠ "java/lang/invoke/VarHandle" ∧ (parseMethodDescriptor M_X1_hold.y.desc).map (fun d => d.parameters.length) = some 4 := ⟨by decide +kernel, by decide +kernel, by decide +kernel⟩
theorem pd_X1_drawn : M_X1_drawn.y.cls ≠ "java/lang/invoke/MethodHandle" ∧ M_X1_drawn.y.cls ≠ "java/lang/invoke/VarHandle" ∧ (parseMethodDescriptor M_X1_drawn.y.desc).map (fun d => d.parameters.length) = some 2 := ⟨by decide +kernel, by decide +kernel, by decide +kernel⟩
theorem pd_X2_init : M_X2_init.y.cls ≠ "java/lang/invoke/MethodHandle" ∧ M_X2_init.y.cls ≠ "java/lang/invoke/VarHandle" ∧ (parseMethodDescriptor M_X2_init.y.desc).map (fun d => d.parameters.length) = some 0 := ⟨by decide +kernel, by decide +kernel, by decide +kernel⟩
theorem pd_X2_clear : M_X2_clear.y.cls ≠ "java/lang/invoke/MethodHandle" ∧ M_X2_clear.y.cls ≠ "java/lang/invoke/VarHandle" ∧ (parseMethodDescriptor M_X2_clear.y.desc).map (fun d => d.parameters.length) = some 0 := ⟨by decide +kernel, by decide +kernel, by decide +kernel⟩
theorem pd_X2_add : M_X2_add.y.cls ≠ "java/lang/invoke/MethodHandle" ∧ M_X2_add.y.cls ≠ "java/lang/invoke/VarHandle" ∧ (parseMethodDescriptor M_X2_add.y.desc).map (fun d => d.parameters.length) = some 1 := ⟨by decide +kernel, by decide +kernel, by decide +kernel⟩
theorem pd_X2_at : M_X2_at.y.cls ≠ "java/lang/invoke/MethodHandle" ∧ M_X2_at.y.cls ≠ "java/lang/invoke/VarHandle" ∧ (parseMethodDescriptor M_X2_at.y.desc).map (fun d => d.parameters.length) = some 1 := ⟨by decide +kernel, by decide +kernel, by decide +kernel⟩
theorem pd_X3_init : M_X3_init.y.cls ≠ "java/lang/invoke/MethodHandle" ∧ M_X3_init.y.cls ≠ "java/lang/invoke/VarHandle" ∧ (parseMethodDescriptor M_X3_init.y.desc).map (fun d => d.parameters.length) = some 0 := ⟨by decide +kernel, by decide +kernel, by decide +kernel⟩
theorem pd_X3_between : M_X3_between.y.cls ≠ "java/lang/invoke/MethodHandle" ∧ M_X3_between.y.cls ≠ "java/lang/invoke/VarHandle" ∧ (parseMethodDescriptor M_X3_between.y.desc).map (fun d => d.parameters.length) = some 4 := ⟨by decide +kernel, by decide +kernel, by decide +kernel⟩
theorem pd_X3_weigh : M_X3_weigh.y.cls ≠ "java/lang/invoke/MethodHandle" ∧ M_X3_weigh.y.cls ≠ "java/lang/invoke/VarHandle" ∧ (parseMethodDescriptor M_X3_weigh.y.desc).map (fun d => d.parameters.length) = some 2 := ⟨by decide +kernel, by decide +kernel, by decide +kernel⟩
theorem pd_X3_tryWay : M_X3_tryWay.y.cls ≠ "java/lang/invoke/MethodHandle" ∧ M_X3_tryWay.y.cls ≠ "java/lang/invoke/VarHandle" ∧ (parseMethodDescriptor M_X3_tryWay.y.desc).map (fun d => d.parameters.length) = some 3 := ⟨by decide +kernel, by decide +kernel, by decide +kernel⟩
theorem pd_X3_lie : M_X3_lie.y.cls ≠ "java/lang/invoke/MethodHandle" ∧ M_X3_lie.y.cls ≠ "java/lang/invoke/VarHandle" ∧ (parseMethodDescriptor M_X3_lie.y.desc).map (fun d => d.parameters.length) = some 2 := ⟨by decide +kernel, by decide +kernel, by decide +kernel⟩
theorem pd_X3_gain : M_X3_gain.y.cls ≠ "java/lang/invoke/MethodHandle" ∧ M_X3_gain.y.cls ≠ "java/lang/invoke/VarHandle" ∧ (parseMethodDescriptor M_X3_gain.y.desc).map (fun d => d.parameters.length) = some 4 := ⟨by decide +kernel, by decide +kernel, by decide +kernel⟩
theorem pd_X4_init : M_X4_init.y.cls ≠ "java/lang/invoke/MethodHandle" ∧ M_X4_init.y.cls ≠ "java/lang/invoke/VarHandle" ∧ (parseMethodDescriptor M_X4_init.y.desc).map (fun d => d.parameters.length) = some 0 := ⟨by decide +kernel, by decide +kernel, by decide +kernel⟩
theorem pd_X4_begin : M_X4_begin.y.cls ≠ "java/lang/invoke/MethodHandle" ∧ M_X4_begin.y.cls ≠ "java/lang/invoke/VarHandle" ∧ (parseMethodDescriptor M_X4_begin.y.desc).map (fun d => d.parameters.length) = some 2 := ⟨by decide +kernel, by decide +kernel, by decide +kernel⟩
theorem pd_X4_costOf : M_X4_costOf.y.cls ≠ "java/lang/invoke/MethodHandle" ∧ M_X4_costOf.y.cls ≠ "java/lang/invoke/VarHandle" ∧ (parseMethodDescriptor M_X4_costOf.y.desc).map (fun d => d.parameters.length) = some 1 := ⟨by decide +kernel, by decide +kernel, by decide +kernel⟩
theorem pd_X4_goOneRound : M_X4_goOneRound.y.cls ≠ "java/lang/invoke/MethodHandle" ∧ M_X4_goOneRound.y.cls ≠ "java/lang/invoke/VarHandle" ∧ (parseMethodDescriptor M_X4_goOneRound.y.desc).map (fun d => d.parameters.length) = some 1 := ⟨by decide +kernel, by decide +kernel, by decide +kernel⟩
theorem pd_X4_hear : M_X4_hear.y.cls ≠ "java/lang/invoke/MethodHandle" ∧ M_X4_hear.y.cls ≠ "java/lang/invoke/VarHandle" ∧ (parseMethodDescriptor M_X4_hear.y.desc).map (fun d => d.parameters.length) = some 3 := ⟨by decide +kernel, by decide +kernel, by decide +kernel⟩
theorem pd_X4_spread : M_X4_spread.y.cls ≠ "java/lang/invoke/MethodHandle" ∧ M_X4_spread.y.cls ≠ "java/lang/invoke/VarHandle" ∧ (parseMethodDescriptor M_X4_spread.y.desc).map (fun d => d.parameters.length) = some 1 := ⟨by decide +kernel, by decide +kernel, by decide +kernel⟩
theorem pd_X5_init : M_X5_init.y.cls ≠ "java/lang/invoke/MethodHandle" ∧ M_X5_init.y.cls ≠ "java/lang/invoke/VarHandle" ∧ (parseMethodDescriptor M_X5_init.y.desc).map (fun d => d.parameters.length) = some 0 := ⟨by decide +kernel, by decide +kernel, by decide +kernel⟩
theorem pd_X5_read : M_X5_read.y.cls ≠ "java/lang/invoke/MethodHandle" ∧ M_X5_read.y.cls ≠ "java/lang/invoke/VarHandle" ∧ (parseMethodDescriptor M_X5_read.y.desc).map (fun d => d.parameters.length) = some 2 := ⟨by decide +kernel, by decide +kernel, by decide +kernel⟩
theorem pd_X5_howMany : M_X5_howMany.y.cls ≠ "java/lang/invoke/MethodHandle" ∧ M_X5_howMany.y.cls ≠ "java/lang/invoke/VarHandle" ∧ (parseMethodDescriptor M_X5_howMany.y.desc).map (fun d => d.parameters.length) = some 1 := ⟨by decide +kernel, by decide +kernel, by decide +kernel⟩
theorem pd_X5_readNumbers : M_X5_readNumbers.y.cls ≠ "java/lang/invoke/MethodHandle" ∧ M_X5_readNumbers.y.cls ≠ "java/lang/invoke/VarHandle" ∧ (parseMethodDescriptor M_X5_readNumbers.y.desc).map (fun d => d.parameters.length) = some 2 := ⟨by decide +kernel, by decide +kernel, by decide +kernel⟩
theorem pd_X5_readNumber : M_X5_readNumber.y.cls ≠ "java/lang/invoke/MethodHandle" ∧ M_X5_readNumber.y.cls ≠ "java/lang/invoke/VarHandle" ∧ (parseMethodDescriptor M_X5_readNumber.y.desc).map (fun d => d.parameters.length) = some 2 := ⟨by decide +kernel, by decide +kernel, by decide +kernel⟩
theorem pd_X5_isFigure : M_X5_isFigure.y.cls ≠ "java/lang/invoke/MethodHandle" ∧ M_X5_isFigure.y.cls ≠ "java/lang/invoke/VarHandle" ∧ (parseMethodDescriptor M_X5_isFigure.y.desc).map (fun d => d.parameters.length) = some 1 := ⟨by decide +kernel, by decide +kernel, by decide +kernel⟩
theorem pd_X6_init : M_X6_init.y.cls ≠ "java/lang/invoke/MethodHandle" ∧ M_X6_init.y.cls ≠ "java/lang/invoke/VarHandle" ∧ (parseMethodDescriptor M_X6_init.y.desc).map (fun d => d.parameters.length) = some 0 := ⟨by decide +kernel, by decide +kernel, by decide +kernel⟩
theorem pd_X6_clear : M_X6_clear.y.cls ≠ "java/lang/invoke/MethodHandle" ∧ M_X6_clear.y.cls ≠ "java/lang/invoke/VarHandle" ∧ (parseMethodDescriptor M_X6_clear.y.desc).map (fun d => d.parameters.length) = some 0 := ⟨by decide +kernel, by decide +kernel, by decide +kernel⟩
theorem pd_X6_add : M_X6_add.y.cls ≠ "java/lang/invoke/MethodHandle" ∧ M_X6_add.y.cls ≠ "java/lang/invoke/VarHandle" ∧ (parseMethodDescriptor M_X6_add.y.desc).map (fun d => d.parameters.length) = some 3 := ⟨by decide +kernel, by decide +kernel, by decide +kernel⟩
theorem pd_X6_isSpeaker : M_X6_isSpeaker.y.cls ≠ "java/lang/invoke/MethodHandle" ∧ M_X6_isSpeaker.y.cls ≠ "java/lang/invoke/VarHandle" ∧ (parseMethodDescriptor M_X6_isSpeaker.y.desc).map (fun d => d.parameters.length) = some 1 := ⟨by decide +kernel, by decide +kernel, by decide +kernel⟩
theorem pd_X6_isUntruth : M_X6_isUntruth.y.cls ≠ "java/lang/invoke/MethodHandle" ∧ M_X6_isUntruth.y.cls ≠ "java/lang/invoke/VarHandle" ∧ (parseMethodDescriptor M_X6_isUntruth.y.desc).map (fun d => d.parameters.length) = some 2 := ⟨by decide +kernel, by decide +kernel, by decide +kernel⟩
theorem pd_X6_tally : M_X6_tally.y.cls ≠ "java/lang/invoke/MethodHandle" ∧ M_X6_tally.y.cls ≠ "java/lang/invoke/VarHandle" ∧ (parseMethodDescriptor M_X6_tally.y.desc).map (fun d => d.parameters.length) = some 3 := ⟨by decide +kernel, by decide +kernel, by decide +kernel⟩
theorem pd_X6_copy : M_X6_copy.y.cls ≠ "java/lang/invoke/MethodHandle" ∧ M_X6_copy.y.cls ≠ "java/lang/invoke/VarHandle" ∧ (parseMethodDescriptor M_X6_copy.y.desc).map (fun d => d.parameters.length) = some 1 := ⟨by decide +kernel, by decide +kernel, by decide +kernel⟩
theorem pd_X7_init : M_X7_init.y.cls ≠ "java/lang/invoke/MethodHandle" ∧ M_X7_init.y.cls ≠ "java/lang/invoke/VarHandle" ∧ (parseMethodDescriptor M_X7_init.y.desc).map (fun d => d.parameters.length) = some 0 := ⟨by decide +kernel, by decide +kernel, by decide +kernel⟩
theorem pd_X7_clear : M_X7_clear.y.cls ≠ "java/lang/invoke/MethodHandle" ∧ M_X7_clear.y.cls ≠ "java/lang/invoke/VarHandle" ∧ (parseMethodDescriptor M_X7_clear.y.desc).map (fun d => d.parameters.length) = some 0 := ⟨by decide +kernel, by decide +kernel, by decide +kernel⟩
theorem pd_X7_add : M_X7_add.y.cls ≠ "java/lang/invoke/MethodHandle" ∧ M_X7_add.y.cls ≠ "java/lang/invoke/VarHandle" ∧ (parseMethodDescriptor M_X7_add.y.desc).map (fun d => d.parameters.length) = some 2 := ⟨by decide +kernel, by decide +kernel, by decide +kernel⟩
theorem pd_X7_chance : M_X7_chance.y.cls ≠ "java/lang/invoke/MethodHandle" ∧ M_X7_chance.y.cls ≠ "java/lang/invoke/VarHandle" ∧ (parseMethodDescriptor M_X7_chance.y.desc).map (fun d => d.parameters.length) = some 2 := ⟨by decide +kernel, by decide +kernel, by decide +kernel⟩
theorem pd_X7_commonDivisor : M_X7_commonDivisor.y.cls ≠ "java/lang/invoke/MethodHandle" ∧ M_X7_commonDivisor.y.cls ≠ "java/lang/invoke/VarHandle" ∧ (parseMethodDescriptor M_X7_commonDivisor.y.desc).map (fun d => d.parameters.length) = some 2 := ⟨by decide +kernel, by decide +kernel, by decide +kernel⟩
theorem pd_X8_init : M_X8_init.y.cls ≠ "java/lang/invoke/MethodHandle" ∧ M_X8_init.y.cls ≠ "java/lang/invoke/VarHandle" ∧ (parseMethodDescriptor M_X8_init.y.desc).map (fun d => d.parameters.length) = some 0 := ⟨by decide +kernel, by decide +kernel, by decide +kernel⟩
theorem pd_X8_clear : M_X8_clear.y.cls ≠ "java/lang/invoke/MethodHandle" ∧ M_X8_clear.y.cls ≠ "java/lang/invoke/VarHandle" ∧ (parseMethodDescriptor M_X8_clear.y.desc).map (fun d => d.parameters.length) = some 0 := ⟨by decide +kernel, by decide +kernel, by decide +kernel⟩
theorem pd_X8_take : M_X8_take.y.cls ≠ "java/lang/invoke/MethodHandle" ∧ M_X8_take.y.cls ≠ "java/lang/invoke/VarHandle" ∧ (parseMethodDescriptor M_X8_take.y.desc).map (fun d => d.parameters.length) = some 2 := ⟨by decide +kernel, by decide +kernel, by decide +kernel⟩
theorem pd_X8_takeGuest : M_X8_takeGuest.y.cls ≠ "java/lang/invoke/MethodHandle" ∧ M_X8_takeGuest.y.cls ≠ "java/lang/invoke/VarHandle" ∧ (parseMethodDescriptor M_X8_takeGuest.y.desc).map (fun d => d.parameters.length) = some 3 := ⟨by decide +kernel, by decide +kernel, by decide +kernel⟩
theorem pd_X8_takeThing : M_X8_takeThing.y.cls ≠ "java/lang/invoke/MethodHandle" ∧ M_X8_takeThing.y.cls ≠ "java/lang/invoke/VarHandle" ∧ (parseMethodDescriptor M_X8_takeThing.y.desc).map (fun d => d.parameters.length) = some 2 := ⟨by decide +kernel, by decide +kernel, by decide +kernel⟩
theorem pd_X8_takeLaw : M_X8_takeLaw.y.cls ≠ "java/lang/invoke/MethodHandle" ∧ M_X8_takeLaw.y.cls ≠ "java/lang/invoke/VarHandle" ∧ (parseMethodDescriptor M_X8_takeLaw.y.desc).map (fun d => d.parameters.length) = some 1 := ⟨by decide +kernel, by decide +kernel, by decide +kernel⟩
theorem pd_X8_takeStart : M_X8_takeStart.y.cls ≠ "java/lang/invoke/MethodHandle" ∧ M_X8_takeStart.y.cls ≠ "java/lang/invoke/VarHandle" ∧ (parseMethodDescriptor M_X8_takeStart.y.desc).map (fun d => d.parameters.length) = some 1 := ⟨by decide +kernel, by decide +kernel, by decide +kernel⟩
theorem pd_X8_canBeLaid : M_X8_canBeLaid.y.cls ≠ "java/lang/invoke/MethodHandle" ∧ M_X8_canBeLaid.y.cls ≠ "java/lang/invoke/VarHandle" ∧ (parseMethodDescriptor M_X8_canBeLaid.y.desc).map (fun d => d.parameters.length) = some 0 := ⟨by decide +kernel, by decide +kernel, by decide +kernel⟩
theorem pd_X8_hasGuest : M_X8_hasGuest.y.cls ≠ "java/lang/invoke/MethodHandle" ∧ M_X8_hasGuest.y.cls ≠ "java/lang/invoke/VarHandle" ∧ (parseMethodDescriptor M_X8_hasGuest.y.desc).map (fun d => d.parameters.length) = some 1 := ⟨by decide +kernel, by decide +kernel, by decide +kernel⟩
theorem pd_X8_hasThing : M_X8_hasThing.y.cls ≠ "java/lang/invoke/MethodHandle" ∧ M_X8_hasThing.y.cls ≠ "java/lang/invoke/VarHandle" ∧ (parseMethodDescriptor M_X8_hasThing.y.desc).map (fun d => d.parameters.length) = some 1 := ⟨by decide +kernel, by decide +kernel, by decide +kernel⟩
theorem pd_X8_allThings : M_X8_allThings.y.cls ≠ "java/lang/invoke/MethodHandle" ∧ M_X8_allThings.y.cls ≠ "java/lang/invoke/VarHandle" ∧ (parseMethodDescriptor M_X8_allThings.y.desc).map (fun d => d.parameters.length) = some 0 := ⟨by decide +kernel, by decide +kernel, by decide +kernel⟩
theorem pd_X8_isSo : M_X8_isSo.y.cls ≠ "java/lang/invoke/MethodHandle" ∧ M_X8_isSo.y.cls ≠ "java/lang/invoke/VarHandle" ∧ (parseMethodDescriptor M_X8_isSo.y.desc).map (fun d => d.parameters.length) = some 2 := ⟨by decide +kernel, by decide +kernel, by decide +kernel⟩
theorem pd_X8_knows : M_X8_knows.y.cls ≠ "java/lang/invoke/MethodHandle" ∧ M_X8_knows.y.cls ≠ "java/lang/invoke/VarHandle" ∧ (parseMethodDescriptor M_X8_knows.y.desc).map (fun d => d.parameters.length) = some 2 := ⟨by decide +kernel, by decide +kernel, by decide +kernel⟩
theorem pd_X8_knownBy : M_X8_knownBy.y.cls ≠ "java/lang/invoke/MethodHandle" ∧ M_X8_knownBy.y.cls ≠ "java/lang/invoke/VarHandle" ∧ (parseMethodDescriptor M_X8_knownBy.y.desc).map (fun d => d.parameters.length) = some 1 := ⟨by decide +kernel, by decide +kernel, by decide +kernel⟩
theorem pd_X8_tally : M_X8_tally.y.cls ≠ "java/lang/invoke/MethodHandle" ∧ M_X8_tally.y.cls ≠ "java/lang/invoke/VarHandle" ∧ (parseMethodDescriptor M_X8_tally.y.desc).map (fun d => d.parameters.length) = some 2 := ⟨by decide +kernel, by decide +kernel, by decide +kernel⟩
theorem pd_X8_remainder : M_X8_remainder.y.cls ≠ "java/lang/invoke/MethodHandle" ∧ M_X8_remainder.y.cls ≠ "java/lang/invoke/VarHandle" ∧ (parseMethodDescriptor M_X8_remainder.y.desc).map (fun d => d.parameters.length) = some 2 := ⟨by decide +kernel, by decide +kernel, by decide +kernel⟩
theorem pd_X8_upward : M_X8_upward.y.cls ≠ "java/lang/invoke/MethodHandle" ∧ M_X8_upward.y.cls ≠ "java/lang/invoke/VarHandle" ∧ (parseMethodDescriptor M_X8_upward.y.desc).map (fun d => d.parameters.length) = some 2 := ⟨by decide +kernel, by decide +kernel, by decide +kernel⟩
theorem pd_X8_apart : M_X8_apart.y.cls ≠ "java/lang/invoke/MethodHandle" ∧ M_X8_apart.y.cls ≠ "java/lang/invoke/VarHandle" ∧ (parseMethodDescriptor M_X8_apart.y.desc).map (fun d => d.parameters.length) = some 2 := ⟨by decide +kernel, by decide +kernel, by decide +kernel⟩
theorem pd_X8_shorterWay : M_X8_shorterWay.y.cls ≠ "java/lang/invoke/MethodHandle" ∧ M_X8_shorterWay.y.cls ≠ "java/lang/invoke/VarHandle" ∧ (parseMethodDescriptor M_X8_shorterWay.y.desc).map (fun d => d.parameters.length) = some 2 := ⟨by decide +kernel, by decide +kernel, by decide +kernel⟩
theorem pd_X8_landing : M_X8_landing.y.cls ≠ "java/lang/invoke/MethodHandle" ∧ M_X8_landing.y.cls ≠ "java/lang/invoke/VarHandle" ∧ (parseMethodDescriptor M_X8_landing.y.desc).map (fun d => d.parameters.length) = some 4 := ⟨by decide +kernel, by decide +kernel, by decide +kernel⟩
theorem pd_X8_pulled : M_X8_pulled.y.cls ≠ "java/lang/invoke/MethodHandle" ∧ M_X8_pulled.y.cls ≠ "java/lang/invoke/VarHandle" ∧ (parseMethodDescriptor M_X8_pulled.y.desc).map (fun d => d.parameters.length) = some 4 := ⟨by decide +kernel, by decide +kernel, by decide +kernel⟩
theorem pd_X8_towardDeaf : M_X8_towardDeaf.y.cls ≠ "java/lang/invoke/MethodHandle" ∧ M_X8_towardDeaf.y.cls ≠ "java/lang/invoke/VarHandle" ∧ (parseMethodDescriptor M_X8_towardDeaf.y.desc).map (fun d => d.parameters.length) = some 2 := ⟨by decide +kernel, by decide +kernel, by decide +kernel⟩
theorem pd_X9_init : M_X9_init.y.cls ≠ "java/lang/invoke/MethodHandle" ∧ M_X9_init.y.cls ≠ "java/lang/invoke/VarHandle" ∧ (parseMethodDescriptor M_X9_init.y.desc).map (fun d => d.parameters.length) = some 0 := ⟨by decide +kernel, by decide +kernel, by decide +kernel⟩
theorem pd_X9_sift : M_X9_sift.y.cls ≠ "java/lang/invoke/MethodHandle" ∧ M_X9_sift.y.cls ≠ "java/lang/invoke/VarHandle" ∧ (parseMethodDescriptor M_X9_sift.y.desc).map (fun d => d.parameters.length) = some 2 := ⟨by decide +kernel, by decide +kernel, by decide +kernel⟩
theorem pd_X9_admit : M_X9_admit.y.cls ≠ "java/lang/invoke/MethodHandle" ∧ M_X9_admit.y.cls ≠ "java/lang/invoke/VarHandle" ∧ (parseMethodDescriptor M_X9_admit.y.desc).map (fun d => d.parameters.length) = some 2 := ⟨by decide +kernel, by decide +kernel, by decide +kernel⟩
theorem pd_X9_explains : M_X9_explains.y.cls ≠ "java/lang/invoke/MethodHandle" ∧ M_X9_explains.y.cls ≠ "java/lang/invoke/VarHandle" ∧ (parseMethodDescriptor M_X9_explains.y.desc).map (fun d => d.parameters.length) = some 4 := ⟨by decide +kernel, by decide +kernel, by decide +kernel⟩
theorem pd_X9_possibleLaws : M_X9_possibleLaws.y.cls ≠ "java/lang/invoke/MethodHandle" ∧ M_X9_possibleLaws.y.cls ≠ "java/lang/invoke/VarHandle" ∧ (parseMethodDescriptor M_X9_possibleLaws.y.desc).map (fun d => d.parameters.length) = some 2 := ⟨by decide +kernel, by decide +kernel, by decide +kernel⟩
theorem pd_X9_findQuestion : M_X9_findQuestion.y.cls ≠ "java/lang/invoke/MethodHandle" ∧ M_X9_findQuestion.y.cls ≠ "java/lang/invoke/VarHandle" ∧ (parseMethodDescriptor M_X9_findQuestion.y.desc).map (fun d => d.parameters.length) = some 2 := ⟨by decide +kernel, by decide +kernel, by decide +kernel⟩
theorem pd_X9_mostAlike : M_X9_mostAlike.y.cls ≠ "java/lang/invoke/MethodHandle" ∧ M_X9_mostAlike.y.cls ≠ "java/lang/invoke/VarHandle" ∧ (parseMethodDescriptor M_X9_mostAlike.y.desc).map (fun d => d.parameters.length) = some 4 := ⟨by decide +kernel, by decide +kernel, by decide +kernel⟩
theorem pd_X10_init : M_X10_init.y.cls ≠ "java/lang/invoke/MethodHandle" ∧ M_X10_init.y.cls ≠ "java/lang/invoke/VarHandle" ∧ (parseMethodDescriptor M_X10_init.y.desc).map (fun d => d.parameters.length) = some 0 := ⟨by decide +kernel, by decide +kernel, by decide +kernel⟩
theorem pd_X10_write : M_X10_write.y.cls ≠ "java/lang/invoke/MethodHandle" ∧ M_X10_write.y.cls ≠ "java/lang/invoke/VarHandle" ∧ (parseMethodDescriptor M_X10_write.y.desc).map (fun d => d.parameters.length) = some 1 := ⟨by decide +kernel, by decide +kernel, by decide +kernel⟩
theorem pd_X10_wipe : M_X10_wipe.y.cls ≠ "java/lang/invoke/MethodHandle" ∧ M_X10_wipe.y.cls ≠ "java/lang/invoke/VarHandle" ∧ (parseMethodDescriptor M_X10_wipe.y.desc).map (fun d => d.parameters.length) = some 0 := ⟨by decide +kernel, by decide +kernel, by decide +kernel⟩
theorem pd_X10_fault : M_X10_fault.y.cls ≠ "java/lang/invoke/MethodHandle" ∧ M_X10_fault.y.cls ≠ "java/lang/invoke/VarHandle" ∧ (parseMethodDescriptor M_X10_fault.y.desc).map (fun d => d.parameters.length) = some 0 := ⟨by decide +kernel, by decide +kernel, by decide +kernel⟩
theorem pd_X10_lay : M_X10_lay.y.cls ≠ "java/lang/invoke/MethodHandle" ∧ M_X10_lay.y.cls ≠ "java/lang/invoke/VarHandle" ∧ (parseMethodDescriptor M_X10_lay.y.desc).map (fun d => d.parameters.length) = some 0 := ⟨by decide +kernel, by decide +kernel, by decide +kernel⟩
theorem pd_X10_guest : M_X10_guest.y.cls ≠ "java/lang/invoke/MethodHandle" ∧ M_X10_guest.y.cls ≠ "java/lang/invoke/VarHandle" ∧ (parseMethodDescriptor M_X10_guest.y.desc).map (fun d => d.parameters.length) = some 2 := ⟨by decide +kernel, by decide +kernel, by decide +kernel⟩
theorem pd_X10_thing : M_X10_thing.y.cls ≠ "java/lang/invoke/MethodHandle" ∧ M_X10_thing.y.cls ≠ "java/lang/invoke/VarHandle" ∧ (parseMethodDescriptor M_X10_thing.y.desc).map (fun d => d.parameters.length) = some 2 := ⟨by decide +kernel, by decide +kernel, by decide +kernel⟩
theorem pd_X10_weight : M_X10_weight.y.cls ≠ "java/lang/invoke/MethodHandle" ∧ M_X10_weight.y.cls ≠ "java/lang/invoke/VarHandle" ∧ (parseMethodDescriptor M_X10_weight.y.desc).map (fun d => d.parameters.length) = some 2 := ⟨by decide +kernel, by decide +kernel, by decide +kernel⟩
theorem pd_X10_say : M_X10_say.y.cls ≠ "java/lang/invoke/MethodHandle" ∧ M_X10_say.y.cls ≠ "java/lang/invoke/VarHandle" ∧ (parseMethodDescriptor M_X10_say.y.desc).map (fun d => d.parameters.length) = some 3 := ⟨by decide +kernel, by decide +kernel, by decide +kernel⟩
theorem pd_X10_sayBoth : M_X10_sayBoth.y.cls ≠ "java/lang/invoke/MethodHandle" ∧ M_X10_sayBoth.y.cls ≠ "java/lang/invoke/VarHandle" ∧ (parseMethodDescriptor M_X10_sayBoth.y.desc).map (fun d => d.parameters.length) = some 6 := ⟨by decide +kernel, by decide +kernel, by decide +kernel⟩
theorem pd_X10_hush : M_X10_hush.y.cls ≠ "java/lang/invoke/MethodHandle" ∧ M_X10_hush.y.cls ≠ "java/lang/invoke/VarHandle" ∧ (parseMethodDescriptor M_X10_hush.y.desc).map (fun d => d.parameters.length) = some 0 := ⟨by decide +kernel, by decide +kernel, by decide +kernel⟩
theorem pd_X10_undo : M_X10_undo.y.cls ≠ "java/lang/invoke/MethodHandle" ∧ M_X10_undo.y.cls ≠ "java/lang/invoke/VarHandle" ∧ (parseMethodDescriptor M_X10_undo.y.desc).map (fun d => d.parameters.length) = some 0 := ⟨by decide +kernel, by decide +kernel, by decide +kernel⟩
theorem pd_X10_went : M_X10_went.y.cls ≠ "java/lang/invoke/MethodHandle" ∧ M_X10_went.y.cls ≠ "java/lang/invoke/VarHandle" ∧ (parseMethodDescriptor M_X10_went.y.desc).map (fun d => d.parameters.length) = some 2 := ⟨by decide +kernel, by decide +kernel, by decide +kernel⟩
theorem pd_X10_fits : M_X10_fits.y.cls ≠ "java/lang/invoke/MethodHandle" ∧ M_X10_fits.y.cls ≠ "java/lang/invoke/VarHandle" ∧ (parseMethodDescriptor M_X10_fits.y.desc).map (fun d => d.parameters.length) = some 1 := ⟨by decide +kernel, by decide +kernel, by decide +kernel⟩
theorem pd_X10_sure : M_X10_sure.y.cls ≠ "java/lang/invoke/MethodHandle" ∧ M_X10_sure.y.cls ≠ "java/lang/invoke/VarHandle" ∧ (parseMethodDescriptor M_X10_sure.y.desc).map (fun d => d.parameters.length) = some 1 := ⟨by decide +kernel, by decide +kernel, by decide +kernel⟩
theorem pd_X10_laws : M_X10_laws.y.cls ≠ "java/lang/invoke/MethodHandle" ∧ M_X10_laws.y.cls ≠ "java/lang/invoke/VarHandle" ∧ (parseMethodDescriptor M_X10_laws.y.desc).map (fun d => d.parameters.length) = some 0 := ⟨by decide +kernel, by decide +kernel, by decide +kernel⟩
theorem pd_X10_ask : M_X10_ask.y.cls ≠ "java/lang/invoke/MethodHandle" ∧ M_X10_ask.y.cls ≠ "java/lang/invoke/VarHandle" ∧ (parseMethodDescriptor M_X10_ask.y.desc).map (fun d => d.parameters.length) = some 1 := ⟨by decide +kernel, by decide +kernel, by decide +kernel⟩
theorem pd_X10_fewest : M_X10_fewest.y.cls ≠ "java/lang/invoke/MethodHandle" ∧ M_X10_fewest.y.cls ≠ "java/lang/invoke/VarHandle" ∧ (parseMethodDescriptor M_X10_fewest.y.desc).map (fun d => d.parameters.length) = some 2 := ⟨by decide +kernel, by decide +kernel, by decide +kernel⟩
theorem pd_X10_story : M_X10_story.y.cls ≠ "java/lang/invoke/MethodHandle" ∧ M_X10_story.y.cls ≠ "java/lang/invoke/VarHandle" ∧ (parseMethodDescriptor M_X10_story.y.desc).map (fun d => d.parameters.length) = some 2 := ⟨by decide +kernel, by decide +kernel, by decide +kernel⟩
theorem pd_X10_rests : M_X10_rests.y.cls ≠ "java/lang/invoke/MethodHandle" ∧ M_X10_rests.y.cls ≠ "java/lang/invoke/VarHandle" ∧ (parseMethodDescriptor M_X10_rests.y.desc).map (fun d => d.parameters.length) = some 5 := ⟨by decide +kernel, by decide +kernel, by decide +kernel⟩
theorem pd_X10_tell : M_X10_tell.y.cls ≠ "java/lang/invoke/MethodHandle" ∧ M_X10_tell.y.cls ≠ "java/lang/invoke/VarHandle" ∧ (parseMethodDescriptor M_X10_tell.y.desc).map (fun d => d.parameters.length) = some 2 := ⟨by decide +kernel, by decide +kernel, by decide +kernel⟩
theorem pd_X10_forget : M_X10_forget.y.cls ≠ "java/lang/invoke/MethodHandle" ∧ M_X10_forget.y.cls ≠ "java/lang/invoke/VarHandle" ∧ (parseMethodDescriptor M_X10_forget.y.desc).map (fun d => d.parameters.length) = some 0 := ⟨by decide +kernel, by decide +kernel, by decide +kernel⟩
theorem pd_X10_believe : M_X10_believe.y.cls ≠ "java/lang/invoke/MethodHandle" ∧ M_X10_believe.y.cls ≠ "java/lang/invoke/VarHandle" ∧ (parseMethodDescriptor M_X10_believe.y.desc).map (fun d => d.parameters.length) = some 1 := ⟨by decide +kernel, by decide +kernel, by decide +kernel⟩
theorem pd_X10_trail : M_X10_trail.y.cls ≠ "java/lang/invoke/MethodHandle" ∧ M_X10_trail.y.cls ≠ "java/lang/invoke/VarHandle" ∧ (parseMethodDescriptor M_X10_trail.y.desc).map (fun d => d.parameters.length) = some 0 := ⟨by decide +kernel, by decide +kernel, by decide +kernel⟩
theorem pd_X10_dinner : M_X10_dinner.y.cls ≠ "java/lang/invoke/MethodHandle" ∧ M_X10_dinner.y.cls ≠ "java/lang/invoke/VarHandle" ∧ (parseMethodDescriptor M_X10_dinner.y.desc).map (fun d => d.parameters.length) = some 3 := ⟨by decide +kernel, by decide +kernel, by decide +kernel⟩
theorem pd_X10_keep : M_X10_keep.y.cls ≠ "java/lang/invoke/MethodHandle" ∧ M_X10_keep.y.cls ≠ "java/lang/invoke/VarHandle" ∧ (parseMethodDescriptor M_X10_keep.y.desc).map (fun d => d.parameters.length) = some 0 := ⟨by decide +kernel, by decide +kernel, by decide +kernel⟩
theorem pd_X10_back : M_X10_back.y.cls ≠ "java/lang/invoke/MethodHandle" ∧ M_X10_back.y.cls ≠ "java/lang/invoke/VarHandle" ∧ (parseMethodDescriptor M_X10_back.y.desc).map (fun d => d.parameters.length) = some 0 := ⟨by decide +kernel, by decide +kernel, by decide +kernel⟩
theorem pd_X10_count : M_X10_count.y.cls ≠ "java/lang/invoke/MethodHandle" ∧ M_X10_count.y.cls ≠ "java/lang/invoke/VarHandle" ∧ (parseMethodDescriptor M_X10_count.y.desc).map (fun d => d.parameters.length) = some 1 := ⟨by decide +kernel, by decide +kernel, by decide +kernel⟩
theorem pd_X10_arePair : M_X10_arePair.y.cls ≠ "java/lang/invoke/MethodHandle" ∧ M_X10_arePair.y.cls ≠ "java/lang/invoke/VarHandle" ∧ (parseMethodDescriptor M_X10_arePair.y.desc).map (fun d => d.parameters.length) = some 2 := ⟨by decide +kernel, by decide +kernel, by decide +kernel⟩
theorem pd_X10_takeDraft : M_X10_takeDraft.y.cls ≠ "java/lang/invoke/MethodHandle" ∧ M_X10_takeDraft.y.cls ≠ "java/lang/invoke/VarHandle" ∧ (parseMethodDescriptor M_X10_takeDraft.y.desc).map (fun d => d.parameters.length) = some 0 := ⟨by decide +kernel, by decide +kernel, by decide +kernel⟩
theorem pd_X11_init : M_X11_init.y.cls ≠ "java/lang/invoke/MethodHandle" ∧ M_X11_init.y.cls ≠ "java/lang/invoke/VarHandle" ∧ (parseMethodDescriptor M_X11_init.y.desc).map (fun d => d.parameters.length) = some 0 := ⟨by decide +kernel, by decide +kernel, by decide +kernel⟩
theorem pd_X11_in : M_X11_in.y.cls ≠ "java/lang/invoke/MethodHandle" ∧ M_X11_in.y.cls ≠ "java/lang/invoke/VarHandle" ∧ (parseMethodDescriptor M_X11_in.y.desc).map (fun d => d.parameters.length) = some 3 := ⟨by decide +kernel, by decide +kernel, by decide +kernel⟩
theorem pd_X11_isGuest : M_X11_isGuest.y.cls ≠ "java/lang/invoke/MethodHandle" ∧ M_X11_isGuest.y.cls ≠ "java/lang/invoke/VarHandle" ∧ (parseMethodDescriptor M_X11_isGuest.y.desc).map (fun d => d.parameters.length) = some 1 := ⟨by decide +kernel, by decide +kernel, by decide +kernel⟩
theorem pd_X11_isThing : M_X11_isThing.y.cls ≠ "java/lang/invoke/MethodHandle" ∧ M_X11_isThing.y.cls ≠ "java/lang/invoke/VarHandle" ∧ (parseMethodDescriptor M_X11_isThing.y.desc).map (fun d => d.parameters.length) = some 1 := ⟨by decide +kernel, by decide +kernel, by decide +kernel⟩
theorem pd_X11_ones : M_X11_ones.y.cls ≠ "java/lang/invoke/MethodHandle" ∧ M_X11_ones.y.cls ≠ "java/lang/invoke/VarHandle" ∧ (parseMethodDescriptor M_X11_ones.y.desc).map (fun d => d.parameters.length) = some 1 := ⟨by decide +kernel, by decide +kernel, by decide +kernel⟩
theorem pd_X11_write : M_X11_write.y.cls ≠ "java/lang/invoke/MethodHandle" ∧ M_X11_write.y.cls ≠ "java/lang/invoke/VarHandle" ∧ (parseMethodDescriptor M_X11_write.y.desc).map (fun d => d.parameters.length) = some 1 := ⟨by decide +kernel, by decide +kernel, by decide +kernel⟩
theorem pd_X11_wipe : M_X11_wipe.y.cls ≠ "java/lang/invoke/MethodHandle" ∧ M_X11_wipe.y.cls ≠ "java/lang/invoke/VarHandle" ∧ (parseMethodDescriptor M_X11_wipe.y.desc).map (fun d => d.parameters.length) = some 0 := ⟨by decide +kernel, by decide +kernel, by decide +kernel⟩
theorem pd_X11_letterAt : M_X11_letterAt.y.cls ≠ "java/lang/invoke/MethodHandle" ∧ M_X11_letterAt.y.cls ≠ "java/lang/invoke/VarHandle" ∧ (parseMethodDescriptor M_X11_letterAt.y.desc).map (fun d => d.parameters.length) = some 1 := ⟨by decide +kernel, by decide +kernel, by decide +kernel⟩
theorem pd_X11_isFigure : M_X11_isFigure.y.cls ≠ "java/lang/invoke/MethodHandle" ∧ M_X11_isFigure.y.cls ≠ "java/lang/invoke/VarHandle" ∧ (parseMethodDescriptor M_X11_isFigure.y.desc).map (fun d => d.parameters.length) = some 1 := ⟨by decide +kernel, by decide +kernel, by decide +kernel⟩
theorem pd_X11_number : M_X11_number.y.cls ≠ "java/lang/invoke/MethodHandle" ∧ M_X11_number.y.cls ≠ "java/lang/invoke/VarHandle" ∧ (parseMethodDescriptor M_X11_number.y.desc).map (fun d => d.parameters.length) = some 2 := ⟨by decide +kernel, by decide +kernel, by decide +kernel⟩
theorem pd_X11_begins : M_X11_begins.y.cls ≠ "java/lang/invoke/MethodHandle" ∧ M_X11_begins.y.cls ≠ "java/lang/invoke/VarHandle" ∧ (parseMethodDescriptor M_X11_begins.y.desc).map (fun d => d.parameters.length) = some 0 := ⟨by decide +kernel, by decide +kernel, by decide +kernel⟩
theorem pd_X11_guestOf : M_X11_guestOf.y.cls ≠ "java/lang/invoke/MethodHandle" ∧ M_X11_guestOf.y.cls ≠ "java/lang/invoke/VarHandle" ∧ (parseMethodDescriptor M_X11_guestOf.y.desc).map (fun d => d.parameters.length) = some 3 := ⟨by decide +kernel, by decide +kernel, by decide +kernel⟩
theorem pd_X11_thingOf : M_X11_thingOf.y.cls ≠ "java/lang/invoke/MethodHandle" ∧ M_X11_thingOf.y.cls ≠ "java/lang/invoke/VarHandle" ∧ (parseMethodDescriptor M_X11_thingOf.y.desc).map (fun d => d.parameters.length) = some 2 := ⟨by decide +kernel, by decide +kernel, by decide +kernel⟩
theorem pd_X11_readsItem : M_X11_readsItem.y.cls ≠ "java/lang/invoke/MethodHandle" ∧ M_X11_readsItem.y.cls ≠ "java/lang/invoke/VarHandle" ∧ (parseMethodDescriptor M_X11_readsItem.y.desc).map (fun d => d.parameters.length) = some 1 := ⟨by decide +kernel, by decide +kernel, by decide +kernel⟩
theorem pd_X11_reads : M_X11_reads.y.cls ≠ "java/lang/invoke/MethodHandle" ∧ M_X11_reads.y.cls ≠ "java/lang/invoke/VarHandle" ∧ (parseMethodDescriptor M_X11_reads.y.desc).map (fun d => d.parameters.length) = some 0 := ⟨by decide +kernel, by decide +kernel, by decide +kernel⟩
theorem pd_X11_fault : M_X11_fault.y.cls ≠ "java/lang/invoke/MethodHandle" ∧ M_X11_fault.y.cls ≠ "java/lang/invoke/VarHandle" ∧ (parseMethodDescriptor M_X11_fault.y.desc).map (fun d => d.parameters.length) = some 0 := ⟨by decide +kernel, by decide +kernel, by decide +kernel⟩
theorem pd_X11_lays : M_X11_lays.y.cls ≠ "java/lang/invoke/MethodHandle" ∧ M_X11_lays.y.cls ≠ "java/lang/invoke/VarHandle" ∧ (parseMethodDescriptor M_X11_lays.y.desc).map (fun d => d.parameters.length) = some 0 := ⟨by decide +kernel, by decide +kernel, by decide +kernel⟩
theorem pd_X11_lay : M_X11_lay.y.cls ≠ "java/lang/invoke/MethodHandle" ∧ M_X11_lay.y.cls ≠ "java/lang/invoke/VarHandle" ∧ (parseMethodDescriptor M_X11_lay.y.desc).map (fun d => d.parameters.length) = some 0 := ⟨by decide +kernel, by decide +kernel, by decide +kernel⟩
theorem pd_X11_up : M_X11_up.y.cls ≠ "java/lang/invoke/MethodHandle" ∧ M_X11_up.y.cls ≠ "java/lang/invoke/VarHandle" ∧ (parseMethodDescriptor M_X11_up.y.desc).map (fun d => d.parameters.length) = some 2 := ⟨by decide +kernel, by decide +kernel, by decide +kernel⟩
theorem pd_X11_far : M_X11_far.y.cls ≠ "java/lang/invoke/MethodHandle" ∧ M_X11_far.y.cls ≠ "java/lang/invoke/VarHandle" ∧ (parseMethodDescriptor M_X11_far.y.desc).map (fun d => d.parameters.length) = some 2 := ⟨by decide +kernel, by decide +kernel, by decide +kernel⟩
theorem pd_X11_guest : M_X11_guest.y.cls ≠ "java/lang/invoke/MethodHandle" ∧ M_X11_guest.y.cls ≠ "java/lang/invoke/VarHandle" ∧ (parseMethodDescriptor M_X11_guest.y.desc).map (fun d => d.parameters.length) = some 2 := ⟨by decide +kernel, by decide +kernel, by decide +kernel⟩
theorem pd_X11_thing : M_X11_thing.y.cls ≠ "java/lang/invoke/MethodHandle" ∧ M_X11_thing.y.cls ≠ "java/lang/invoke/VarHandle" ∧ (parseMethodDescriptor M_X11_thing.y.desc).map (fun d => d.parameters.length) = some 2 := ⟨by decide +kernel, by decide +kernel, by decide +kernel⟩
theorem pd_X11_counts : M_X11_counts.y.cls ≠ "java/lang/invoke/MethodHandle" ∧ M_X11_counts.y.cls ≠ "java/lang/invoke/VarHandle" ∧ (parseMethodDescriptor M_X11_counts.y.desc).map (fun d => d.parameters.length) = some 2 := ⟨by decide +kernel, by decide +kernel, by decide +kernel⟩
theorem pd_X11_weight : M_X11_weight.y.cls ≠ "java/lang/invoke/MethodHandle" ∧ M_X11_weight.y.cls ≠ "java/lang/invoke/VarHandle" ∧ (parseMethodDescriptor M_X11_weight.y.desc).map (fun d => d.parameters.length) = some 2 := ⟨by decide +kernel, by decide +kernel, by decide +kernel⟩
theorem pd_X11_steps : M_X11_steps.y.cls ≠ "java/lang/invoke/MethodHandle" ∧ M_X11_steps.y.cls ≠ "java/lang/invoke/VarHandle" ∧ (parseMethodDescriptor M_X11_steps.y.desc).map (fun d => d.parameters.length) = some 3 := ⟨by decide +kernel, by decide +kernel, by decide +kernel⟩
theorem pd_X11_drawn : M_X11_drawn.y.cls ≠ "java/lang/invoke/MethodHandle" ∧ M_X11_drawn.y.cls ≠ "java/lang/invoke/VarHandle" ∧ (parseMethodDescriptor M_X11_drawn.y.desc).map (fun d => d.parameters.length) = some 4 := ⟨by decide +kernel, by decide +kernel, by decide +kernel⟩
theorem pd_X11_hushed : M_X11_hushed.y.cls ≠ "java/lang/invoke/MethodHandle" ∧ M_X11_hushed.y.cls ≠ "java/lang/invoke/VarHandle" ∧ (parseMethodDescriptor M_X11_hushed.y.desc).map (fun d => d.parameters.length) = some 2 := ⟨by decide +kernel, by decide +kernel, by decide +kernel⟩
theorem pd_X11_saying : M_X11_saying.y.cls ≠ "java/lang/invoke/MethodHandle" ∧ M_X11_saying.y.cls ≠ "java/lang/invoke/VarHandle" ∧ (parseMethodDescriptor M_X11_saying.y.desc).map (fun d => d.parameters.length) = some 3 := ⟨by decide +kernel, by decide +kernel, by decide +kernel⟩
theorem pd_X11_countsOf : M_X11_countsOf.y.cls ≠ "java/lang/invoke/MethodHandle" ∧ M_X11_countsOf.y.cls ≠ "java/lang/invoke/VarHandle" ∧ (parseMethodDescriptor M_X11_countsOf.y.desc).map (fun d => d.parameters.length) = some 2 := ⟨by decide +kernel, by decide +kernel, by decide +kernel⟩
theorem pd_X11_spokeOf : M_X11_spokeOf.y.cls ≠ "java/lang/invoke/MethodHandle" ∧ M_X11_spokeOf.y.cls ≠ "java/lang/invoke/VarHandle" ∧ (parseMethodDescriptor M_X11_spokeOf.y.desc).map (fun d => d.parameters.length) = some 1 := ⟨by decide +kernel, by decide +kernel, by decide +kernel⟩
theorem pd_X11_comes : M_X11_comes.y.cls ≠ "java/lang/invoke/MethodHandle" ∧ M_X11_comes.y.cls ≠ "java/lang/invoke/VarHandle" ∧ (parseMethodDescriptor M_X11_comes.y.desc).map (fun d => d.parameters.length) = some 5 := ⟨by decide +kernel, by decide +kernel, by decide +kernel⟩
theorem pd_X11_lies : M_X11_lies.y.cls ≠ "java/lang/invoke/MethodHandle" ∧ M_X11_lies.y.cls ≠ "java/lang/invoke/VarHandle" ∧ (parseMethodDescriptor M_X11_lies.y.desc).map (fun d => d.parameters.length) = some 1 := ⟨by decide +kernel, by decide +kernel, by decide +kernel⟩
theorem pd_X11_goes : M_X11_goes.y.cls ≠ "java/lang/invoke/MethodHandle" ∧ M_X11_goes.y.cls ≠ "java/lang/invoke/VarHandle" ∧ (parseMethodDescriptor M_X11_goes.y.desc).map (fun d => d.parameters.length) = some 2 := ⟨by decide +kernel, by decide +kernel, by decide +kernel⟩
theorem pd_X11_keeps : M_X11_keeps.y.cls ≠ "java/lang/invoke/MethodHandle" ∧ M_X11_keeps.y.cls ≠ "java/lang/invoke/VarHandle" ∧ (parseMethodDescriptor M_X11_keeps.y.desc).map (fun d => d.parameters.length) = some 0 := ⟨by decide +kernel, by decide +kernel, by decide +kernel⟩
theorem pd_X11_say : M_X11_say.y.cls ≠ "java/lang/invoke/MethodHandle" ∧ M_X11_say.y.cls ≠ "java/lang/invoke/VarHandle" ∧ (parseMethodDescriptor M_X11_say.y.desc).map (fun d => d.parameters.length) = some 3 := ⟨by decide +kernel, by decide +kernel, by decide +kernel⟩
theorem pd_X11_sayBoth : M_X11_sayBoth.y.cls ≠ "java/lang/invoke/MethodHandle" ∧ M_X11_sayBoth.y.cls ≠ "java/lang/invoke/VarHandle" ∧ (parseMethodDescriptor M_X11_sayBoth.y.desc).map (fun d => d.parameters.length) = some 6 := ⟨by decide +kernel, by decide +kernel, by decide +kernel⟩
theorem pd_X11_hush : M_X11_hush.y.cls ≠ "java/lang/invoke/MethodHandle" ∧ M_X11_hush.y.cls ≠ "java/lang/invoke/VarHandle" ∧ (parseMethodDescriptor M_X11_hush.y.desc).map (fun d => d.parameters.length) = some 0 := ⟨by decide +kernel, by decide +kernel, by decide +kernel⟩
theorem pd_X11_undo : M_X11_undo.y.cls ≠ "java/lang/invoke/MethodHandle" ∧ M_X11_undo.y.cls ≠ "java/lang/invoke/VarHandle" ∧ (parseMethodDescriptor M_X11_undo.y.desc).map (fun d => d.parameters.length) = some 0 := ⟨by decide +kernel, by decide +kernel, by decide +kernel⟩
theorem pd_X11_went : M_X11_went.y.cls ≠ "java/lang/invoke/MethodHandle" ∧ M_X11_went.y.cls ≠ "java/lang/invoke/VarHandle" ∧ (parseMethodDescriptor M_X11_went.y.desc).map (fun d => d.parameters.length) = some 2 := ⟨by decide +kernel, by decide +kernel, by decide +kernel⟩
theorem pd_X11_isSo : M_X11_isSo.y.cls ≠ "java/lang/invoke/MethodHandle" ∧ M_X11_isSo.y.cls ≠ "java/lang/invoke/VarHandle" ∧ (parseMethodDescriptor M_X11_isSo.y.desc).map (fun d => d.parameters.length) = some 2 := ⟨by decide +kernel, by decide +kernel, by decide +kernel⟩
theorem pd_X11_fits : M_X11_fits.y.cls ≠ "java/lang/invoke/MethodHandle" ∧ M_X11_fits.y.cls ≠ "java/lang/invoke/VarHandle" ∧ (parseMethodDescriptor M_X11_fits.y.desc).map (fun d => d.parameters.length) = some 1 := ⟨by decide +kernel, by decide +kernel, by decide +kernel⟩
theorem pd_X11_sure : M_X11_sure.y.cls ≠ "java/lang/invoke/MethodHandle" ∧ M_X11_sure.y.cls ≠ "java/lang/invoke/VarHandle" ∧ (parseMethodDescriptor M_X11_sure.y.desc).map (fun d => d.parameters.length) = some 1 := ⟨by decide +kernel, by decide +kernel, by decide +kernel⟩
theorem pd_X11_laws : M_X11_laws.y.cls ≠ "java/lang/invoke/MethodHandle" ∧ M_X11_laws.y.cls ≠ "java/lang/invoke/VarHandle" ∧ (parseMethodDescriptor M_X11_laws.y.desc).map (fun d => d.parameters.length) = some 0 := ⟨by decide +kernel, by decide +kernel, by decide +kernel⟩
theorem pd_X11_ask : M_X11_ask.y.cls ≠ "java/lang/invoke/MethodHandle" ∧ M_X11_ask.y.cls ≠ "java/lang/invoke/VarHandle" ∧ (parseMethodDescriptor M_X11_ask.y.desc).map (fun d => d.parameters.length) = some 1 := ⟨by decide +kernel, by decide +kernel, by decide +kernel⟩
theorem pd_X11_leads : M_X11_leads.y.cls ≠ "java/lang/invoke/MethodHandle" ∧ M_X11_leads.y.cls ≠ "java/lang/invoke/VarHandle" ∧ (parseMethodDescriptor M_X11_leads.y.desc).map (fun d => d.parameters.length) = some 2 := ⟨by decide +kernel, by decide +kernel, by decide +kernel⟩
theorem pd_X11_fewest : M_X11_fewest.y.cls ≠ "java/lang/invoke/MethodHandle" ∧ M_X11_fewest.y.cls ≠ "java/lang/invoke/VarHandle" ∧ (parseMethodDescriptor M_X11_fewest.y.desc).map (fun d => d.parameters.length) = some 2 := ⟨by decide +kernel, by decide +kernel, by decide +kernel⟩
theorem pd_X11_story : M_X11_story.y.cls ≠ "java/lang/invoke/MethodHandle" ∧ M_X11_story.y.cls ≠ "java/lang/invoke/VarHandle" ∧ (parseMethodDescriptor M_X11_story.y.desc).map (fun d => d.parameters.length) = some 2 := ⟨by decide +kernel, by decide +kernel, by decide +kernel⟩
theorem pd_X11_has : M_X11_has.y.cls ≠ "java/lang/invoke/MethodHandle" ∧ M_X11_has.y.cls ≠ "java/lang/invoke/VarHandle" ∧ (parseMethodDescriptor M_X11_has.y.desc).map (fun d => d.parameters.length) = some 6 := ⟨by decide +kernel, by decide +kernel, by decide +kernel⟩
theorem pd_X11_rests : M_X11_rests.y.cls ≠ "java/lang/invoke/MethodHandle" ∧ M_X11_rests.y.cls ≠ "java/lang/invoke/VarHandle" ∧ (parseMethodDescriptor M_X11_rests.y.desc).map (fun d => d.parameters.length) = some 5 := ⟨by decide +kernel, by decide +kernel, by decide +kernel⟩
theorem pd_X11_tell : M_X11_tell.y.cls ≠ "java/lang/invoke/MethodHandle" ∧ M_X11_tell.y.cls ≠ "java/lang/invoke/VarHandle" ∧ (parseMethodDescriptor M_X11_tell.y.desc).map (fun d => d.parameters.length) = some 2 := ⟨by decide +kernel, by decide +kernel, by decide +kernel⟩
theorem pd_X11_forget : M_X11_forget.y.cls ≠ "java/lang/invoke/MethodHandle" ∧ M_X11_forget.y.cls ≠ "java/lang/invoke/VarHandle" ∧ (parseMethodDescriptor M_X11_forget.y.desc).map (fun d => d.parameters.length) = some 0 := ⟨by decide +kernel, by decide +kernel, by decide +kernel⟩
theorem pd_X11_believe : M_X11_believe.y.cls ≠ "java/lang/invoke/MethodHandle" ∧ M_X11_believe.y.cls ≠ "java/lang/invoke/VarHandle" ∧ (parseMethodDescriptor M_X11_believe.y.desc).map (fun d => d.parameters.length) = some 1 := ⟨by decide +kernel, by decide +kernel, by decide +kernel⟩
theorem pd_X11_trail : M_X11_trail.y.cls ≠ "java/lang/invoke/MethodHandle" ∧ M_X11_trail.y.cls ≠ "java/lang/invoke/VarHandle" ∧ (parseMethodDescriptor M_X11_trail.y.desc).map (fun d => d.parameters.length) = some 0 := ⟨by decide +kernel, by decide +kernel, by decide +kernel⟩
theorem pd_X11_dinner : M_X11_dinner.y.cls ≠ "java/lang/invoke/MethodHandle" ∧ M_X11_dinner.y.cls ≠ "java/lang/invoke/VarHandle" ∧ (parseMethodDescriptor M_X11_dinner.y.desc).map (fun d => d.parameters.length) = some 3 := ⟨by decide +kernel, by decide +kernel, by decide +kernel⟩
theorem pd_X11_keep : M_X11_keep.y.cls ≠ "java/lang/invoke/MethodHandle" ∧ M_X11_keep.y.cls ≠ "java/lang/invoke/VarHandle" ∧ (parseMethodDescriptor M_X11_keep.y.desc).map (fun d => d.parameters.length) = some 0 := ⟨by decide +kernel, by decide +kernel, by decide +kernel⟩
theorem pd_X11_back : M_X11_back.y.cls ≠ "java/lang/invoke/MethodHandle" ∧ M_X11_back.y.cls ≠ "java/lang/invoke/VarHandle" ∧ (parseMethodDescriptor M_X11_back.y.desc).map (fun d => d.parameters.length) = some 0 := ⟨by decide +kernel, by decide +kernel, by decide +kernel⟩
theorem pd_X11_count : M_X11_count.y.cls ≠ "java/lang/invoke/MethodHandle" ∧ M_X11_count.y.cls ≠ "java/lang/invoke/VarHandle" ∧ (parseMethodDescriptor M_X11_count.y.desc).map (fun d => d.parameters.length) = some 1 := ⟨by decide +kernel, by decide +kernel, by decide +kernel⟩
theorem pd_J6_bitCount_0f7a4 : M_J6_bitCount_0f7a4.y.cls ≠ "java/lang/invoke/MethodHandle" ∧ M_J6_bitCount_0f7a4.y.cls ≠ "java/lang/invoke/VarHandle" ∧ (parseMethodDescriptor M_J6_bitCount_0f7a4.y.desc).map (fun d => d.parameters.length) = some 1 := ⟨by decide +kernel, by decide +kernel, by decide +kernel⟩
theorem pd_J9_floorMod_7cf53 : M_J9_floorMod_7cf53.y.cls ≠ "java/lang/invoke/MethodHandle" ∧ M_J9_floorMod_7cf53.y.cls ≠ "java/lang/invoke/VarHandle" ∧ (parseMethodDescriptor M_J9_floorMod_7cf53.y.desc).map (fun d => d.parameters.length) = some 2 := ⟨by decide +kernel, by decide +kernel, by decide +kernel⟩
theorem pd_J9_abs_0f7a4 : M_J9_abs_0f7a4.y.cls ≠ "java/lang/invoke/MethodHandle" ∧ M_J9_abs_0f7a4.y.cls ≠ "java/lang/invoke/VarHandle" ∧ (parseMethodDescriptor M_J9_abs_0f7a4.y.desc).map (fun d => d.parameters.length) = some 1 := ⟨by decide +kernel, by decide +kernel, by decide +kernel⟩
theorem pd_J9_max_7cf53 : M_J9_max_7cf53.y.cls ≠ "java/lang/invoke/MethodHandle" ∧ M_J9_max_7cf53.y.cls ≠ "java/lang/invoke/VarHandle" ∧ (parseMethodDescriptor M_J9_max_7cf53.y.desc).map (fun d => d.parameters.length) = some 2 := ⟨by decide +kernel, by decide +kernel, by decide +kernel⟩
theorem pd_J9_min_7cf53 : M_J9_min_7cf53.y.cls ≠ "java/lang/invoke/MethodHandle" ∧ M_J9_min_7cf53.y.cls ≠ "java/lang/invoke/VarHandle" ∧ (parseMethodDescriptor M_J9_min_7cf53.y.desc).map (fun d => d.parameters.length) = some 2 := ⟨by decide +kernel, by decide +kernel, by decide +kernel⟩
theorem pd_J0_length_8abf5 : M_J0_length_8abf5.y.cls ≠ "java/lang/invoke/MethodHandle" ∧ M_J0_length_8abf5.y.cls ≠ "java/lang/invoke/VarHandle" ∧ (parseMethodDescriptor M_J0_length_8abf5.y.desc).map (fun d => d.parameters.length) = some 0 := ⟨by decide +kernel, by decide +kernel, by decide +kernel⟩
theorem pd_J0_charAt_5068e : M_J0_charAt_5068e.y.cls ≠ "java/lang/invoke/MethodHandle" ∧ M_J0_charAt_5068e.y.cls ≠ "java/lang/invoke/VarHandle" ∧ (parseMethodDescriptor M_J0_charAt_5068e.y.desc).map (fun d => d.parameters.length) = some 1 := ⟨by decide +kernel, by decide +kernel, by decide +kernel⟩
theorem pd_J0_coder_7d493 : M_J0_coder_7d493.y.cls ≠ "java/lang/invoke/MethodHandle" ∧ M_J0_coder_7d493.y.cls ≠ "java/lang/invoke/VarHandle" ∧ (parseMethodDescriptor M_J0_coder_7d493.y.desc).map (fun d => d.parameters.length) = some 0 := ⟨by decide +kernel, by decide +kernel, by decide +kernel⟩
theorem pd_J0_isLatin1_aae02 : M_J0_isLatin1_aae02.y.cls ≠ "java/lang/invoke/MethodHandle" ∧ M_J0_isLatin1_aae02.y.cls ≠ "java/lang/invoke/VarHandle" ∧ (parseMethodDescriptor M_J0_isLatin1_aae02.y.desc).map (fun d => d.parameters.length) = some 0 := ⟨by decide +kernel, by decide +kernel, by decide +kernel⟩
theorem pd_J0_checkIndex_df160 : M_J0_checkIndex_df160.y.cls ≠ "java/lang/invoke/MethodHandle" ∧ M_J0_checkIndex_df160.y.cls ≠ "java/lang/invoke/VarHandle" ∧ (parseMethodDescriptor M_J0_checkIndex_df160.y.desc).map (fun d => d.parameters.length) = some 2 := ⟨by decide +kernel, by decide +kernel, by decide +kernel⟩
theorem pd_J1_charAt_3b067 : M_J1_charAt_3b067.y.cls ≠ "java/lang/invoke/MethodHandle" ∧ M_J1_charAt_3b067.y.cls ≠ "java/lang/invoke/VarHandle" ∧ (parseMethodDescriptor M_J1_charAt_3b067.y.desc).map (fun d => d.parameters.length) = some 2 := ⟨by decide +kernel, by decide +kernel, by decide +kernel⟩
theorem pd_J2_getChar_3b067 : M_J2_getChar_3b067.y.cls ≠ "java/lang/invoke/MethodHandle" ∧ M_J2_getChar_3b067.y.cls ≠ "java/lang/invoke/VarHandle" ∧ (parseMethodDescriptor M_J2_getChar_3b067.y.desc).map (fun d => d.parameters.length) = some 2 := ⟨by decide +kernel, by decide +kernel, by decide +kernel⟩
theorem pd_J2_length_9d52b : M_J2_length_9d52b.y.cls ≠ "java/lang/invoke/MethodHandle" ∧ M_J2_length_9d52b.y.cls ≠ "java/lang/invoke/VarHandle" ∧ (parseMethodDescriptor M_J2_length_9d52b.y.desc).map (fun d => d.parameters.length) = some 1 := ⟨by decide +kernel, by decide +kernel, by decide +kernel⟩
theorem pd_J2_charAt_3b067 : M_J2_charAt_3b067.y.cls ≠ "java/lang/invoke/MethodHandle" ∧ M_J2_charAt_3b067.y.cls ≠ "java/lang/invoke/VarHandle" ∧ (parseMethodDescriptor M_J2_charAt_3b067.y.desc).map (fun d => d.parameters.length) = some 2 := ⟨by decide +kernel, by decide +kernel, by decide +kernel⟩
theorem pd_J2_checkIndex_2214a : M_J2_checkIndex_2214a.y.cls ≠ "java/lang/invoke/MethodHandle" ∧ M_J2_checkIndex_2214a.y.cls ≠ "java/lang/invoke/VarHandle" ∧ (parseMethodDescriptor M_J2_checkIndex_2214a.y.desc).map (fun d => d.parameters.length) = some 2 := ⟨by decide +kernel, by decide +kernel, by decide +kernel⟩
theorem pd_J3_checkIndex_8e157 : M_J3_checkIndex_8e157.y.cls ≠ "java/lang/invoke/MethodHandle" ∧ M_J3_checkIndex_8e157.y.cls ≠ "java/lang/invoke/VarHandle" ∧ (parseMethodDescriptor M_J3_checkIndex_8e157.y.desc).map (fun d => d.parameters.length) = some 3 := ⟨by decide +kernel, by decide +kernel, by decide +kernel⟩
