theorem tb_at {w : Cond} (j : Nat) (h : tables_1[j]? = some w) : w ∈ lw_tbl := tb_in (List.mem_of_getElem? h)
theorem pv_at {q : MethodName × Nat} (j : Nat) (h : lw_privs[j]? = some q) : Cond.selects q.1.cls q.1 q.1 ∈ lw_tbl := List.mem_append_left _ (List.mem_map.mpr ⟨q, List.mem_of_getElem? h, rfl⟩)
theorem wi_L : Cond.initialized RL ∈ lw_tbl := tb_at 0 (by decide +kernel)
theorem wi_X7 : Cond.initialized RX7 ∈ lw_tbl := tb_at 1 (by decide +kernel)
theorem wi_X4 : Cond.initialized RX4 ∈ lw_tbl := tb_at 2 (by decide +kernel)
theorem wi_X6 : Cond.initialized RX6 ∈ lw_tbl := tb_at 3 (by decide +kernel)
theorem wi_X1 : Cond.initialized RX1 ∈ lw_tbl := tb_at 4 (by decide +kernel)
theorem wi_X5 : Cond.initialized RX5 ∈ lw_tbl := tb_at 5 (by decide +kernel)
theorem wi_X8 : Cond.initialized RX8 ∈ lw_tbl := tb_at 6 (by decide +kernel)
theorem wi_X0 : Cond.initialized RX0 ∈ lw_tbl := tb_at 7 (by decide +kernel)
theorem wi_J9 : Cond.initialized RJ9 ∈ lw_tbl := tb_at 8 (by decide +kernel)
theorem wi_X2 : Cond.initialized RX2 ∈ lw_tbl := tb_at 9 (by decide +kernel)
theorem wi_X3 : Cond.initialized RX3 ∈ lw_tbl := tb_at 10 (by decide +kernel)
theorem wi_J10 : Cond.initialized RJ10 ∈ lw_tbl := tb_at 11 (by decide +kernel)
theorem wk_L_7 : Cond.classLink RL 7 RX7 ∈ lw_tbl := tb_at 12 (by decide +kernel)
theorem wn_X7 : Cond.instantiable RX7 10 ∈ lw_tbl := tb_at 13 (by decide +kernel)
theorem wk_X7_9 : Cond.classLink RX7 9 RX6 ∈ lw_tbl := tb_at 20 (by decide +kernel)
theorem wk_X7_15 : Cond.classLink RX7 15 RX0 ∈ lw_tbl := tb_at 22 (by decide +kernel)
theorem wk_X7_21 : Cond.classLink RX7 21 RX2 ∈ lw_tbl := tb_at 24 (by decide +kernel)
theorem wk_X7_27 : Cond.classLink RX7 27 RX3 ∈ lw_tbl := tb_at 26 (by decide +kernel)
theorem wk_X7_33 : Cond.classLink RX7 33 RX4 ∈ lw_tbl := tb_at 28 (by decide +kernel)
theorem wn_X4 : Cond.instantiable RX4 4 ∈ lw_tbl := tb_at 29 (by decide +kernel)
theorem fl_X4_9 : Cond.fieldLink RX4 9 (rg_T 4 0).1 (rg_T 4 0).2.1 (rg_T 4 0).2.2.1 ∈ lw_tbl := tb_at 34 (by decide +kernel)
theorem fl_X4_15 : Cond.fieldLink RX4 15 (rg_T 4 1).1 (rg_T 4 1).2.1 (rg_T 4 1).2.2.1 ∈ lw_tbl := tb_at 35 (by decide +kernel)
theorem fl_X4_19 : Cond.fieldLink RX4 19 (rg_T 4 2).1 (rg_T 4 2).2.1 (rg_T 4 2).2.2.1 ∈ lw_tbl := tb_at 36 (by decide +kernel)
theorem fl_X4_22 : Cond.fieldLink RX4 22 (rg_T 4 3).1 (rg_T 4 3).2.1 (rg_T 4 3).2.2.1 ∈ lw_tbl := tb_at 37 (by decide +kernel)
theorem fl_X7_278 : Cond.fieldLink RX7 278 (rg_T 4 3).1 (rg_T 4 3).2.1 (rg_T 4 3).2.2.1 ∈ lw_tbl := tb_at 38 (by decide +kernel)
theorem wa_long : Cond.arrayClass .long ∈ lw_tbl := tb_at 48 (by decide +kernel)
theorem wa_int : Cond.arrayClass .int ∈ lw_tbl := tb_at 49 (by decide +kernel)
theorem wn_X6 : Cond.instantiable RX6 10 ∈ lw_tbl := tb_at 50 (by decide +kernel)
theorem wk_X6_9 : Cond.classLink RX6 9 RX5 ∈ lw_tbl := tb_at 55 (by decide +kernel)
theorem wk_X6_27 : Cond.classLink RX6 27 RX1 ∈ lw_tbl := tb_at 57 (by decide +kernel)
theorem wn_X1 : Cond.instantiable RX1 3 ∈ lw_tbl := tb_at 58 (by decide +kernel)
theorem fl_X1_9 : Cond.fieldLink RX1 9 (rg_T 1 0).1 (rg_T 1 0).2.1 (rg_T 1 0).2.2.1 ∈ lw_tbl := tb_at 63 (by decide +kernel)
theorem fl_X7_275 : Cond.fieldLink RX7 275 (rg_T 1 0).1 (rg_T 1 0).2.1 (rg_T 1 0).2.2.1 ∈ lw_tbl := tb_at 64 (by decide +kernel)
theorem fl_X1_15 : Cond.fieldLink RX1 15 (rg_T 1 1).1 (rg_T 1 1).2.1 (rg_T 1 1).2.2.1 ∈ lw_tbl := tb_at 65 (by decide +kernel)
theorem fl_X1_19 : Cond.fieldLink RX1 19 (rg_T 1 2).1 (rg_T 1 2).2.1 (rg_T 1 2).2.2.1 ∈ lw_tbl := tb_at 66 (by decide +kernel)
theorem fl_X7_272 : Cond.fieldLink RX7 272 (rg_T 1 2).1 (rg_T 1 2).2.1 (rg_T 1 2).2.2.1 ∈ lw_tbl := tb_at 67 (by decide +kernel)
theorem wn_X5 : Cond.instantiable RX5 6 ∈ lw_tbl := tb_at 75 (by decide +kernel)
theorem fl_X5_9 : Cond.fieldLink RX5 9 (rg_T 5 0).1 (rg_T 5 0).2.1 (rg_T 5 0).2.2.1 ∈ lw_tbl := tb_at 80 (by decide +kernel)
theorem fl_X5_15 : Cond.fieldLink RX5 15 (rg_T 5 1).1 (rg_T 5 1).2.1 (rg_T 5 1).2.2.1 ∈ lw_tbl := tb_at 81 (by decide +kernel)
theorem fl_X5_19 : Cond.fieldLink RX5 19 (rg_T 5 2).1 (rg_T 5 2).2.1 (rg_T 5 2).2.2.1 ∈ lw_tbl := tb_at 82 (by decide +kernel)
theorem fl_X5_22 : Cond.fieldLink RX5 22 (rg_T 5 3).1 (rg_T 5 3).2.1 (rg_T 5 3).2.2.1 ∈ lw_tbl := tb_at 83 (by decide +kernel)
theorem fl_X7_159 : Cond.fieldLink RX7 159 (rg_T 5 3).1 (rg_T 5 3).2.1 (rg_T 5 3).2.2.1 ∈ lw_tbl := tb_at 84 (by decide +kernel)
theorem fl_X5_26 : Cond.fieldLink RX5 26 (rg_T 5 4).1 (rg_T 5 4).2.1 (rg_T 5 4).2.2.1 ∈ lw_tbl := tb_at 85 (by decide +kernel)
theorem fl_X7_144 : Cond.fieldLink RX7 144 (rg_T 5 4).1 (rg_T 5 4).2.1 (rg_T 5 4).2.2.1 ∈ lw_tbl := tb_at 86 (by decide +kernel)
theorem fl_X5_29 : Cond.fieldLink RX5 29 (rg_T 5 5).1 (rg_T 5 5).2.1 (rg_T 5 5).2.2.1 ∈ lw_tbl := tb_at 87 (by decide +kernel)
theorem fl_X7_149 : Cond.fieldLink RX7 149 (rg_T 5 5).1 (rg_T 5 5).2.1 (rg_T 5 5).2.2.1 ∈ lw_tbl := tb_at 88 (by decide +kernel)
theorem fl_X6_34 : Cond.fieldLink RX6 34 (rg_T 6 0).1 (rg_T 6 0).2.1 (rg_T 6 0).2.2.1 ∈ lw_tbl := tb_at 102 (by decide +kernel)
theorem fl_X7_55 : Cond.fieldLink RX7 55 (rg_T 6 0).1 (rg_T 6 0).2.1 (rg_T 6 0).2.2.1 ∈ lw_tbl := tb_at 103 (by decide +kernel)
theorem fl_X6_11 : Cond.fieldLink RX6 11 (rg_T 6 1).1 (rg_T 6 1).2.1 (rg_T 6 1).2.2.1 ∈ lw_tbl := tb_at 104 (by decide +kernel)
theorem fl_X7_281 : Cond.fieldLink RX7 281 (rg_T 6 1).1 (rg_T 6 1).2.1 (rg_T 6 1).2.2.1 ∈ lw_tbl := tb_at 105 (by decide +kernel)
theorem fl_X6_17 : Cond.fieldLink RX6 17 (rg_T 6 2).1 (rg_T 6 2).2.1 (rg_T 6 2).2.2.1 ∈ lw_tbl := tb_at 106 (by decide +kernel)
theorem fl_X6_20 : Cond.fieldLink RX6 20 (rg_T 6 3).1 (rg_T 6 3).2.1 (rg_T 6 3).2.2.1 ∈ lw_tbl := tb_at 107 (by decide +kernel)
theorem fl_X6_24 : Cond.fieldLink RX6 24 (rg_T 6 4).1 (rg_T 6 4).2.1 (rg_T 6 4).2.2.1 ∈ lw_tbl := tb_at 108 (by decide +kernel)
theorem fl_X6_30 : Cond.fieldLink RX6 30 (rg_T 6 5).1 (rg_T 6 5).2.1 (rg_T 6 5).2.2.1 ∈ lw_tbl := tb_at 109 (by decide +kernel)
theorem fl_X7_194 : Cond.fieldLink RX7 194 (rg_T 6 5).1 (rg_T 6 5).2.1 (rg_T 6 5).2.2.1 ∈ lw_tbl := tb_at 110 (by decide +kernel)
theorem fl_X6_80 : Cond.fieldLink RX6 80 (rg_T 6 6).1 (rg_T 6 6).2.1 (rg_T 6 6).2.2.1 ∈ lw_tbl := tb_at 111 (by decide +kernel)
theorem fl_X7_191 : Cond.fieldLink RX7 191 (rg_T 6 6).1 (rg_T 6 6).2.1 (rg_T 6 6).2.2.1 ∈ lw_tbl := tb_at 112 (by decide +kernel)
theorem fl_X6_49 : Cond.fieldLink RX6 49 (rg_T 6 7).1 (rg_T 6 7).2.1 (rg_T 6 7).2.2.1 ∈ lw_tbl := tb_at 113 (by decide +kernel)
theorem fl_X7_178 : Cond.fieldLink RX7 178 (rg_T 6 7).1 (rg_T 6 7).2.1 (rg_T 6 7).2.2.1 ∈ lw_tbl := tb_at 114 (by decide +kernel)
theorem fl_X6_60 : Cond.fieldLink RX6 60 (rg_T 6 8).1 (rg_T 6 8).2.1 (rg_T 6 8).2.2.1 ∈ lw_tbl := tb_at 115 (by decide +kernel)
theorem fl_X7_181 : Cond.fieldLink RX7 181 (rg_T 6 8).1 (rg_T 6 8).2.1 (rg_T 6 8).2.2.1 ∈ lw_tbl := tb_at 116 (by decide +kernel)
theorem fl_X6_73 : Cond.fieldLink RX6 73 (rg_T 6 9).1 (rg_T 6 9).2.1 (rg_T 6 9).2.2.1 ∈ lw_tbl := tb_at 117 (by decide +kernel)
theorem fl_X7_185 : Cond.fieldLink RX7 185 (rg_T 6 9).1 (rg_T 6 9).2.1 (rg_T 6 9).2.2.1 ∈ lw_tbl := tb_at 118 (by decide +kernel)
theorem fl_X7_11 : Cond.fieldLink RX7 11 (rg_T 7 0).1 (rg_T 7 0).2.1 (rg_T 7 0).2.2.1 ∈ lw_tbl := tb_at 140 (by decide +kernel)
theorem fl_X7_17 : Cond.fieldLink RX7 17 (rg_T 7 1).1 (rg_T 7 1).2.1 (rg_T 7 1).2.2.1 ∈ lw_tbl := tb_at 141 (by decide +kernel)
theorem fl_X7_23 : Cond.fieldLink RX7 23 (rg_T 7 2).1 (rg_T 7 2).2.1 (rg_T 7 2).2.2.1 ∈ lw_tbl := tb_at 142 (by decide +kernel)
theorem fl_X7_29 : Cond.fieldLink RX7 29 (rg_T 7 3).1 (rg_T 7 3).2.1 (rg_T 7 3).2.2.1 ∈ lw_tbl := tb_at 143 (by decide +kernel)
theorem fl_X7_36 : Cond.fieldLink RX7 36 (rg_T 7 4).1 (rg_T 7 4).2.1 (rg_T 7 4).2.2.1 ∈ lw_tbl := tb_at 144 (by decide +kernel)
theorem fl_X7_65 : Cond.fieldLink RX7 65 (rg_T 7 5).1 (rg_T 7 5).2.1 (rg_T 7 5).2.2.1 ∈ lw_tbl := tb_at 145 (by decide +kernel)
theorem fl_X7_59 : Cond.fieldLink RX7 59 (rg_T 7 6).1 (rg_T 7 6).2.1 (rg_T 7 6).2.2.1 ∈ lw_tbl := tb_at 146 (by decide +kernel)
theorem fl_X7_102 : Cond.fieldLink RX7 102 (rg_T 7 7).1 (rg_T 7 7).2.1 (rg_T 7 7).2.2.1 ∈ lw_tbl := tb_at 147 (by decide +kernel)
theorem fl_X7_99 : Cond.fieldLink RX7 99 (rg_T 7 8).1 (rg_T 7 8).2.1 (rg_T 7 8).2.2.1 ∈ lw_tbl := tb_at 148 (by decide +kernel)
theorem fl_X7_204 : Cond.fieldLink RX7 204 (rg_T 7 9).1 (rg_T 7 9).2.1 (rg_T 7 9).2.2.1 ∈ lw_tbl := tb_at 149 (by decide +kernel)
theorem wn_X0 : Cond.instantiable RX0 6 ∈ lw_tbl := tb_at 183 (by decide +kernel)
theorem wk_X0_9 : Cond.classLink RX0 9 "[[J" ∈ lw_tbl := tb_at 188 (by decide +kernel)
theorem fl_X0_23 : Cond.fieldLink RX0 23 (rg_T 0 0).1 (rg_T 0 0).2.1 (rg_T 0 0).2.2.1 ∈ lw_tbl := tb_at 190 (by decide +kernel)
theorem fl_X7_127 : Cond.fieldLink RX7 127 (rg_T 0 0).1 (rg_T 0 0).2.1 (rg_T 0 0).2.2.1 ∈ lw_tbl := tb_at 191 (by decide +kernel)
theorem fl_X0_27 : Cond.fieldLink RX0 27 (rg_T 0 1).1 (rg_T 0 1).2.1 (rg_T 0 1).2.2.1 ∈ lw_tbl := tb_at 192 (by decide +kernel)
theorem fl_X7_51 : Cond.fieldLink RX7 51 (rg_T 0 1).1 (rg_T 0 1).2.1 (rg_T 0 1).2.2.1 ∈ lw_tbl := tb_at 193 (by decide +kernel)
theorem fl_X0_31 : Cond.fieldLink RX0 31 (rg_T 0 2).1 (rg_T 0 2).2.1 (rg_T 0 2).2.2.1 ∈ lw_tbl := tb_at 194 (by decide +kernel)
theorem fl_X7_297 : Cond.fieldLink RX7 297 (rg_T 0 2).1 (rg_T 0 2).2.1 (rg_T 0 2).2.2.1 ∈ lw_tbl := tb_at 195 (by decide +kernel)
theorem fl_X0_11 : Cond.fieldLink RX0 11 (rg_T 0 3).1 (rg_T 0 3).2.1 (rg_T 0 3).2.2.1 ∈ lw_tbl := tb_at 196 (by decide +kernel)
theorem fl_X7_226 : Cond.fieldLink RX7 226 (rg_T 0 3).1 (rg_T 0 3).2.1 (rg_T 0 3).2.2.1 ∈ lw_tbl := tb_at 197 (by decide +kernel)
theorem fl_X0_16 : Cond.fieldLink RX0 16 (rg_T 0 4).1 (rg_T 0 4).2.1 (rg_T 0 4).2.2.1 ∈ lw_tbl := tb_at 198 (by decide +kernel)
theorem fl_X7_230 : Cond.fieldLink RX7 230 (rg_T 0 4).1 (rg_T 0 4).2.1 (rg_T 0 4).2.2.1 ∈ lw_tbl := tb_at 199 (by decide +kernel)
theorem fl_X0_20 : Cond.fieldLink RX0 20 (rg_T 0 5).1 (rg_T 0 5).2.1 (rg_T 0 5).2.2.1 ∈ lw_tbl := tb_at 200 (by decide +kernel)
theorem fl_X7_95 : Cond.fieldLink RX7 95 (rg_T 0 5).1 (rg_T 0 5).2.1 (rg_T 0 5).2.2.1 ∈ lw_tbl := tb_at 201 (by decide +kernel)
theorem wc_X7_68 : Cond.constant RX7 68 (99999) ∈ lw_tbl := tb_at 219 (by decide +kernel)
theorem wc_X7_154 : Cond.constant RX7 154 (1000000) ∈ lw_tbl := tb_at 254 (by decide +kernel)
theorem wc_X7_94 : Cond.constant RX7 94 (1000000000) ∈ lw_tbl := tb_at 302 (by decide +kernel)
theorem wc_X0_35 : Cond.constantLong RX0 35 (1000000) ∈ lw_tbl := tb_at 311 (by decide +kernel)
theorem wn_X2 : Cond.instantiable RX2 5 ∈ lw_tbl := tb_at 316 (by decide +kernel)
theorem fl_X2_13 : Cond.fieldLink RX2 13 (rg_T 2 0).1 (rg_T 2 0).2.1 (rg_T 2 0).2.2.1 ∈ lw_tbl := tb_at 321 (by decide +kernel)
theorem fl_X7_123 : Cond.fieldLink RX7 123 (rg_T 2 0).1 (rg_T 2 0).2.1 (rg_T 2 0).2.2.1 ∈ lw_tbl := tb_at 322 (by decide +kernel)
theorem fl_X2_17 : Cond.fieldLink RX2 17 (rg_T 2 1).1 (rg_T 2 1).2.1 (rg_T 2 1).2.2.1 ∈ lw_tbl := tb_at 323 (by decide +kernel)
theorem fl_X7_128 : Cond.fieldLink RX7 128 (rg_T 2 1).1 (rg_T 2 1).2.1 (rg_T 2 1).2.2.1 ∈ lw_tbl := tb_at 324 (by decide +kernel)
theorem fl_X2_21 : Cond.fieldLink RX2 21 (rg_T 2 2).1 (rg_T 2 2).2.1 (rg_T 2 2).2.2.1 ∈ lw_tbl := tb_at 325 (by decide +kernel)
theorem fl_X7_120 : Cond.fieldLink RX7 120 (rg_T 2 2).1 (rg_T 2 2).2.1 (rg_T 2 2).2.2.1 ∈ lw_tbl := tb_at 326 (by decide +kernel)
theorem fl_X2_24 : Cond.fieldLink RX2 24 (rg_T 2 3).1 (rg_T 2 3).2.1 (rg_T 2 3).2.2.1 ∈ lw_tbl := tb_at 327 (by decide +kernel)
theorem fl_X7_236 : Cond.fieldLink RX7 236 (rg_T 2 3).1 (rg_T 2 3).2.1 (rg_T 2 3).2.2.1 ∈ lw_tbl := tb_at 328 (by decide +kernel)
theorem fl_X2_7 : Cond.fieldLink RX2 7 (rg_T 2 4).1 (rg_T 2 4).2.1 (rg_T 2 4).2.2.1 ∈ lw_tbl := tb_at 329 (by decide +kernel)
theorem fl_X7_239 : Cond.fieldLink RX7 239 (rg_T 2 4).1 (rg_T 2 4).2.1 (rg_T 2 4).2.2.1 ∈ lw_tbl := tb_at 330 (by decide +kernel)
theorem wc_X7_143 : Cond.constant RX7 143 (100000) ∈ lw_tbl := tb_at 359 (by decide +kernel)
theorem wc_X7_152 : Cond.constantLong RX7 152 (10000000000) ∈ lw_tbl := tb_at 364 (by decide +kernel)
theorem wc_X7_167 : Cond.constantLong RX7 167 (-2) ∈ lw_tbl := tb_at 387 (by decide +kernel)
theorem wc_X7_176 : Cond.constantLong RX7 176 (1000000000000) ∈ lw_tbl := tb_at 396 (by decide +kernel)
theorem wn_X3 : Cond.instantiable RX3 8 ∈ lw_tbl := tb_at 416 (by decide +kernel)
theorem fl_X3_25 : Cond.fieldLink RX3 25 (rg_T 3 0).1 (rg_T 3 0).2.1 (rg_T 3 0).2.2.1 ∈ lw_tbl := tb_at 421 (by decide +kernel)
theorem fl_X7_263 : Cond.fieldLink RX7 263 (rg_T 3 0).1 (rg_T 3 0).2.1 (rg_T 3 0).2.2.1 ∈ lw_tbl := tb_at 422 (by decide +kernel)
theorem fl_X3_29 : Cond.fieldLink RX3 29 (rg_T 3 1).1 (rg_T 3 1).2.1 (rg_T 3 1).2.2.1 ∈ lw_tbl := tb_at 423 (by decide +kernel)
theorem fl_X7_266 : Cond.fieldLink RX7 266 (rg_T 3 1).1 (rg_T 3 1).2.1 (rg_T 3 1).2.2.1 ∈ lw_tbl := tb_at 424 (by decide +kernel)
theorem fl_X3_9 : Cond.fieldLink RX3 9 (rg_T 3 2).1 (rg_T 3 2).2.1 (rg_T 3 2).2.2.1 ∈ lw_tbl := tb_at 425 (by decide +kernel)
theorem fl_X7_250 : Cond.fieldLink RX7 250 (rg_T 3 2).1 (rg_T 3 2).2.1 (rg_T 3 2).2.2.1 ∈ lw_tbl := tb_at 426 (by decide +kernel)
theorem fl_X3_15 : Cond.fieldLink RX3 15 (rg_T 3 3).1 (rg_T 3 3).2.1 (rg_T 3 3).2.2.1 ∈ lw_tbl := tb_at 427 (by decide +kernel)
theorem fl_X7_253 : Cond.fieldLink RX7 253 (rg_T 3 3).1 (rg_T 3 3).2.1 (rg_T 3 3).2.2.1 ∈ lw_tbl := tb_at 428 (by decide +kernel)
theorem fl_X3_18 : Cond.fieldLink RX3 18 (rg_T 3 4).1 (rg_T 3 4).2.1 (rg_T 3 4).2.2.1 ∈ lw_tbl := tb_at 429 (by decide +kernel)
theorem fl_X7_256 : Cond.fieldLink RX7 256 (rg_T 3 4).1 (rg_T 3 4).2.1 (rg_T 3 4).2.2.1 ∈ lw_tbl := tb_at 430 (by decide +kernel)
theorem fl_X3_22 : Cond.fieldLink RX3 22 (rg_T 3 5).1 (rg_T 3 5).2.1 (rg_T 3 5).2.2.1 ∈ lw_tbl := tb_at 431 (by decide +kernel)
theorem fl_X7_260 : Cond.fieldLink RX7 260 (rg_T 3 5).1 (rg_T 3 5).2.1 (rg_T 3 5).2.2.1 ∈ lw_tbl := tb_at 432 (by decide +kernel)
theorem fl_X3_32 : Cond.fieldLink RX3 32 (rg_T 3 6).1 (rg_T 3 6).2.1 (rg_T 3 6).2.2.1 ∈ lw_tbl := tb_at 433 (by decide +kernel)
theorem fl_X7_247 : Cond.fieldLink RX7 247 (rg_T 3 6).1 (rg_T 3 6).2.1 (rg_T 3 6).2.2.1 ∈ lw_tbl := tb_at 434 (by decide +kernel)
theorem fl_X3_35 : Cond.fieldLink RX3 35 (rg_T 3 7).1 (rg_T 3 7).2.1 (rg_T 3 7).2.2.1 ∈ lw_tbl := tb_at 435 (by decide +kernel)
theorem fl_X1_27 : Cond.fieldLink RX1 27 (rg_T 3 7).1 (rg_T 3 7).2.1 (rg_T 3 7).2.2.1 ∈ lw_tbl := tb_at 436 (by decide +kernel)
theorem fl_X6_64 : Cond.fieldLink RX6 64 (rg_T 3 7).1 (rg_T 3 7).2.1 (rg_T 3 7).2.2.1 ∈ lw_tbl := tb_at 437 (by decide +kernel)
theorem fl_X7_269 : Cond.fieldLink RX7 269 (rg_T 3 7).1 (rg_T 3 7).2.1 (rg_T 3 7).2.2.1 ∈ lw_tbl := tb_at 438 (by decide +kernel)
theorem wc_X3_43 : Cond.constantLong RX3 43 (10000) ∈ lw_tbl := tb_at 477 (by decide +kernel)
theorem wc_X3_54 : Cond.constantLong RX3 54 (2) ∈ lw_tbl := tb_at 484 (by decide +kernel)
theorem wn_X8 : Cond.instantiable RX8 32 ∈ lw_tbl := tb_at 563 (by decide +kernel)
theorem wc_X8_27 : Cond.constant RX8 27 (99999) ∈ lw_tbl := tb_at 569 (by decide +kernel)
theorem wc_X8_31 : Cond.constant RX8 31 (1000000000) ∈ lw_tbl := tb_at 577 (by decide +kernel)
theorem wc_X8_63 : Cond.constant RX8 63 (1000000) ∈ lw_tbl := tb_at 585 (by decide +kernel)
theorem wc_X8_183 : Cond.constantLong RX8 183 (2) ∈ lw_tbl := tb_at 614 (by decide +kernel)
theorem wc_X8_75 : Cond.constantLong RX8 75 (-2) ∈ lw_tbl := tb_at 627 (by decide +kernel)
theorem wc_X8_107 : Cond.constantLong RX8 107 (1000000) ∈ lw_tbl := tb_at 648 (by decide +kernel)
theorem wk_L_10 : Cond.classLink RL 10 RX8 ∈ lw_tbl := tb_at 670 (by decide +kernel)
theorem fl_X8_24 : Cond.fieldLink RX8 24 (rg_T 8 0).1 (rg_T 8 0).2.1 (rg_T 8 0).2.2.1 ∈ lw_tbl := tb_at 675 (by decide +kernel)
theorem fl_X8_3 : Cond.fieldLink RX8 3 (rg_T 8 1).1 (rg_T 8 1).2.1 (rg_T 8 1).2.2.1 ∈ lw_tbl := tb_at 676 (by decide +kernel)
theorem fl_X8_14 : Cond.fieldLink RX8 14 (rg_T 8 2).1 (rg_T 8 2).2.1 (rg_T 8 2).2.2.1 ∈ lw_tbl := tb_at 677 (by decide +kernel)
theorem fl_X8_18 : Cond.fieldLink RX8 18 (rg_T 8 3).1 (rg_T 8 3).2.1 (rg_T 8 3).2.2.1 ∈ lw_tbl := tb_at 678 (by decide +kernel)
theorem fl_X8_21 : Cond.fieldLink RX8 21 (rg_T 8 4).1 (rg_T 8 4).2.1 (rg_T 8 4).2.2.1 ∈ lw_tbl := tb_at 679 (by decide +kernel)
theorem fl_X8_56 : Cond.fieldLink RX8 56 (rg_T 8 5).1 (rg_T 8 5).2.1 (rg_T 8 5).2.2.1 ∈ lw_tbl := tb_at 680 (by decide +kernel)
theorem fl_X8_32 : Cond.fieldLink RX8 32 (rg_T 8 6).1 (rg_T 8 6).2.1 (rg_T 8 6).2.2.1 ∈ lw_tbl := tb_at 681 (by decide +kernel)
theorem fl_X8_38 : Cond.fieldLink RX8 38 (rg_T 8 7).1 (rg_T 8 7).2.1 (rg_T 8 7).2.2.1 ∈ lw_tbl := tb_at 682 (by decide +kernel)
theorem fl_X8_42 : Cond.fieldLink RX8 42 (rg_T 8 8).1 (rg_T 8 8).2.1 (rg_T 8 8).2.2.1 ∈ lw_tbl := tb_at 683 (by decide +kernel)
theorem fl_X8_35 : Cond.fieldLink RX8 35 (rg_T 8 9).1 (rg_T 8 9).2.1 (rg_T 8 9).2.2.1 ∈ lw_tbl := tb_at 684 (by decide +kernel)
theorem fl_X8_81 : Cond.fieldLink RX8 81 (rg_T 8 10).1 (rg_T 8 10).2.1 (rg_T 8 10).2.2.1 ∈ lw_tbl := tb_at 685 (by decide +kernel)
theorem fl_X8_101 : Cond.fieldLink RX8 101 (rg_T 8 11).1 (rg_T 8 11).2.1 (rg_T 8 11).2.2.1 ∈ lw_tbl := tb_at 686 (by decide +kernel)
theorem fl_X8_98 : Cond.fieldLink RX8 98 (rg_T 8 12).1 (rg_T 8 12).2.1 (rg_T 8 12).2.2.1 ∈ lw_tbl := tb_at 687 (by decide +kernel)
theorem fl_X8_104 : Cond.fieldLink RX8 104 (rg_T 8 13).1 (rg_T 8 13).2.1 (rg_T 8 13).2.2.1 ∈ lw_tbl := tb_at 688 (by decide +kernel)
theorem fl_X8_88 : Cond.fieldLink RX8 88 (rg_T 8 14).1 (rg_T 8 14).2.1 (rg_T 8 14).2.2.1 ∈ lw_tbl := tb_at 689 (by decide +kernel)
theorem fl_X8_84 : Cond.fieldLink RX8 84 (rg_T 8 15).1 (rg_T 8 15).2.1 (rg_T 8 15).2.2.1 ∈ lw_tbl := tb_at 690 (by decide +kernel)
theorem fl_X8_131 : Cond.fieldLink RX8 131 (rg_T 8 16).1 (rg_T 8 16).2.1 (rg_T 8 16).2.2.1 ∈ lw_tbl := tb_at 691 (by decide +kernel)
theorem fl_X8_134 : Cond.fieldLink RX8 134 (rg_T 8 17).1 (rg_T 8 17).2.1 (rg_T 8 17).2.2.1 ∈ lw_tbl := tb_at 692 (by decide +kernel)
theorem fl_X8_137 : Cond.fieldLink RX8 137 (rg_T 8 18).1 (rg_T 8 18).2.1 (rg_T 8 18).2.2.1 ∈ lw_tbl := tb_at 693 (by decide +kernel)
theorem fl_X8_140 : Cond.fieldLink RX8 140 (rg_T 8 19).1 (rg_T 8 19).2.1 (rg_T 8 19).2.2.1 ∈ lw_tbl := tb_at 694 (by decide +kernel)
theorem fl_X8_143 : Cond.fieldLink RX8 143 (rg_T 8 20).1 (rg_T 8 20).2.1 (rg_T 8 20).2.2.1 ∈ lw_tbl := tb_at 695 (by decide +kernel)
theorem fl_X8_146 : Cond.fieldLink RX8 146 (rg_T 8 21).1 (rg_T 8 21).2.1 (rg_T 8 21).2.2.1 ∈ lw_tbl := tb_at 696 (by decide +kernel)
theorem fl_X8_149 : Cond.fieldLink RX8 149 (rg_T 8 22).1 (rg_T 8 22).2.1 (rg_T 8 22).2.2.1 ∈ lw_tbl := tb_at 697 (by decide +kernel)
theorem fl_X8_49 : Cond.fieldLink RX8 49 (rg_T 8 23).1 (rg_T 8 23).2.1 (rg_T 8 23).2.2.1 ∈ lw_tbl := tb_at 698 (by decide +kernel)
theorem fl_X8_152 : Cond.fieldLink RX8 152 (rg_T 8 24).1 (rg_T 8 24).2.1 (rg_T 8 24).2.2.1 ∈ lw_tbl := tb_at 699 (by decide +kernel)
theorem fl_X8_155 : Cond.fieldLink RX8 155 (rg_T 8 25).1 (rg_T 8 25).2.1 (rg_T 8 25).2.2.1 ∈ lw_tbl := tb_at 700 (by decide +kernel)
theorem fl_X8_158 : Cond.fieldLink RX8 158 (rg_T 8 26).1 (rg_T 8 26).2.1 (rg_T 8 26).2.2.1 ∈ lw_tbl := tb_at 701 (by decide +kernel)
theorem fl_X8_206 : Cond.fieldLink RX8 206 (rg_T 8 27).1 (rg_T 8 27).2.1 (rg_T 8 27).2.2.1 ∈ lw_tbl := tb_at 702 (by decide +kernel)
theorem fl_X8_161 : Cond.fieldLink RX8 161 (rg_T 8 28).1 (rg_T 8 28).2.1 (rg_T 8 28).2.2.1 ∈ lw_tbl := tb_at 703 (by decide +kernel)
theorem fl_X8_164 : Cond.fieldLink RX8 164 (rg_T 8 29).1 (rg_T 8 29).2.1 (rg_T 8 29).2.2.1 ∈ lw_tbl := tb_at 704 (by decide +kernel)
theorem fl_X8_167 : Cond.fieldLink RX8 167 (rg_T 8 30).1 (rg_T 8 30).2.1 (rg_T 8 30).2.2.1 ∈ lw_tbl := tb_at 705 (by decide +kernel)
theorem fl_X8_170 : Cond.fieldLink RX8 170 (rg_T 8 31).1 (rg_T 8 31).2.1 (rg_T 8 31).2.2.1 ∈ lw_tbl := tb_at 706 (by decide +kernel)
theorem wa_boolean : Cond.arrayClass .boolean ∈ lw_tbl := tb_at 772 (by decide +kernel)
theorem wc_X8_173 : Cond.constant RX8 173 (100000) ∈ lw_tbl := tb_at 777 (by decide +kernel)
theorem wc_X8_177 : Cond.constantLong RX8 177 (10000000000) ∈ lw_tbl := tb_at 785 (by decide +kernel)
theorem wc_X8_185 : Cond.constantLong RX8 185 (1000000000000) ∈ lw_tbl := tb_at 798 (by decide +kernel)
theorem wc_X8_196 : Cond.constantLong RX8 196 (10000) ∈ lw_tbl := tb_at 825 (by decide +kernel)
theorem wc_X8_204 : Cond.constantLong RX8 204 (5000) ∈ lw_tbl := tb_at 828 (by decide +kernel)
theorem wc_L_23 : Cond.constantLong RL 23 (4294967295) ∈ lw_tbl := tb_at 849 (by decide +kernel)
set_option maxRecDepth 20000 in
theorem cw_yX7_init : Cond.code yX7_init cX7_init 2 none ∈ lw_tbl := tb_at 16 (by first | rfl | decide +kernel)
set_option maxRecDepth 20000 in
theorem cw_objectInit : Cond.code objectInit ⟨#[0xb1]⟩ 1 none ∈ lw_tbl := tb_at 19 (by first | rfl | decide +kernel)
set_option maxRecDepth 20000 in
theorem cw_yX4_init : Cond.code yX4_init cX4_init 1 none ∈ lw_tbl := tb_at 32 (by first | rfl | decide +kernel)
set_option maxRecDepth 20000 in
theorem cw_yX6_init : Cond.code yX6_init cX6_init 3 none ∈ lw_tbl := tb_at 53 (by first | rfl | decide +kernel)
set_option maxRecDepth 20000 in
theorem cw_yX1_init : Cond.code yX1_init cX1_init 1 none ∈ lw_tbl := tb_at 61 (by first | rfl | decide +kernel)
set_option maxRecDepth 20000 in
theorem cw_yX5_init : Cond.code yX5_init cX5_init 1 none ∈ lw_tbl := tb_at 78 (by first | rfl | decide +kernel)
set_option maxRecDepth 20000 in
theorem cw_yX7_account : Cond.code yX7_account cX7_account 5 ((some .int)) ∈ lw_tbl := tb_at 174 (by first | rfl | decide +kernel)
set_option maxRecDepth 20000 in
theorem cw_yX7_tenantAt : Cond.code yX7_tenantAt cX7_tenantAt 2 ((some (.object "QuotaMeter$Tenant"))) ∈ lw_tbl := tb_at 178 (by first | rfl | decide +kernel)
set_option maxRecDepth 20000 in
theorem cw_yX7_accountAt : Cond.code yX7_accountAt cX7_accountAt 2 ((some (.object "QuotaMeter$Account"))) ∈ lw_tbl := tb_at 182 (by first | rfl | decide +kernel)
set_option maxRecDepth 20000 in
theorem cw_yX0_init : Cond.code yX0_init cX0_init 5 none ∈ lw_tbl := tb_at 186 (by first | rfl | decide +kernel)
set_option maxRecDepth 20000 in
theorem cw_yX7_tick : Cond.code yX7_tick cX7_tick 2 ((some .int)) ∈ lw_tbl := tb_at 218 (by first | rfl | decide +kernel)
set_option maxRecDepth 20000 in
theorem cw_yX4_forgetOld : Cond.code yX4_forgetOld cX4_forgetOld 4 none ∈ lw_tbl := tb_at 223 (by first | rfl | decide +kernel)
set_option maxRecDepth 20000 in
theorem cw_yX7_endOldHolds : Cond.code yX7_endOldHolds cX7_endOldHolds 3 none ∈ lw_tbl := tb_at 227 (by first | rfl | decide +kernel)
set_option maxRecDepth 20000 in
theorem cw_yX7_openHoldAt : Cond.code yX7_openHoldAt cX7_openHoldAt 3 ((some (.object "QuotaMeter$Hold"))) ∈ lw_tbl := tb_at 231 (by first | rfl | decide +kernel)
set_option maxRecDepth 20000 in
theorem cw_yX7_holdAt : Cond.code yX7_holdAt cX7_holdAt 2 ((some (.object "QuotaMeter$Hold"))) ∈ lw_tbl := tb_at 235 (by first | rfl | decide +kernel)
set_option maxRecDepth 20000 in
theorem cw_yX7_endHold : Cond.code yX7_endHold cX7_endHold 2 none ∈ lw_tbl := tb_at 239 (by first | rfl | decide +kernel)
set_option maxRecDepth 20000 in
theorem cw_yX0_addHeld : Cond.code yX0_addHeld cX0_addHeld 4 none ∈ lw_tbl := tb_at 243 (by first | rfl | decide +kernel)
set_option maxRecDepth 20000 in
theorem cw_yX7_event : Cond.code yX7_event cX7_event 8 ((some .int)) ∈ lw_tbl := tb_at 247 (by first | rfl | decide +kernel)
set_option maxRecDepth 20000 in
theorem cw_yX7_isResource : Cond.code yX7_isResource cX7_isResource 1 ((some .boolean)) ∈ lw_tbl := tb_at 250 (by first | rfl | decide +kernel)
set_option maxRecDepth 20000 in
theorem cw_yX7_isUnits : Cond.code yX7_isUnits cX7_isUnits 1 ((some .boolean)) ∈ lw_tbl := tb_at 253 (by first | rfl | decide +kernel)
set_option maxRecDepth 20000 in
theorem cw_yX4_knows : Cond.code yX4_knows cX4_knows 5 ((some .boolean)) ∈ lw_tbl := tb_at 258 (by first | rfl | decide +kernel)
set_option maxRecDepth 20000 in
theorem cw_yX4_learn : Cond.code yX4_learn cX4_learn 5 ((some .boolean)) ∈ lw_tbl := tb_at 262 (by first | rfl | decide +kernel)
set_option maxRecDepth 20000 in
theorem cw_yX7_countUnits : Cond.code yX7_countUnits cX7_countUnits 6 ((some .int)) ∈ lw_tbl := tb_at 266 (by first | rfl | decide +kernel)
set_option maxRecDepth 20000 in
theorem cw_yX7_quantityOf : Cond.code yX7_quantityOf cX7_quantityOf 8 ((some .long)) ∈ lw_tbl := tb_at 270 (by first | rfl | decide +kernel)
set_option maxRecDepth 20000 in
theorem cw_yX6_adjust : Cond.code yX6_adjust cX6_adjust 6 none ∈ lw_tbl := tb_at 274 (by first | rfl | decide +kernel)
set_option maxRecDepth 20000 in
theorem cw_yX5_costOf : Cond.code yX5_costOf cX5_costOf 3 ((some .long)) ∈ lw_tbl := tb_at 278 (by first | rfl | decide +kernel)
set_option maxRecDepth 20000 in
theorem cw_yX5_costAtLastTier : Cond.code yX5_costAtLastTier cX5_costAtLastTier 4 ((some .long)) ∈ lw_tbl := tb_at 282 (by first | rfl | decide +kernel)
set_option maxRecDepth 20000 in
theorem cw_yX5_costByTiers : Cond.code yX5_costByTiers cX5_costByTiers 10 ((some .long)) ∈ lw_tbl := tb_at 286 (by first | rfl | decide +kernel)
set_option maxRecDepth 20000 in
theorem cw_yJ9_min_f86c9 : Cond.code yJ9_min_f86c9 cJ9_min_f86c9 4 ((some .long)) ∈ lw_tbl := tb_at 289 (by first | rfl | decide +kernel)
set_option maxRecDepth 20000 in
theorem cw_yX5_pricedParts : Cond.code yX5_pricedParts cX5_pricedParts 3 ((some .long)) ∈ lw_tbl := tb_at 293 (by first | rfl | decide +kernel)
set_option maxRecDepth 20000 in
theorem cw_yX0_addUsed : Cond.code yX0_addUsed cX0_addUsed 5 none ∈ lw_tbl := tb_at 297 (by first | rfl | decide +kernel)
set_option maxRecDepth 20000 in
theorem cw_yX7_limit : Cond.code yX7_limit cX7_limit 5 ((some .int)) ∈ lw_tbl := tb_at 301 (by first | rfl | decide +kernel)
set_option maxRecDepth 20000 in
theorem cw_yX7_request : Cond.code yX7_request cX7_request 5 ((some .int)) ∈ lw_tbl := tb_at 306 (by first | rfl | decide +kernel)
set_option maxRecDepth 20000 in
theorem cw_yX0_freeUnits : Cond.code yX0_freeUnits cX0_freeUnits 6 ((some .int)) ∈ lw_tbl := tb_at 310 (by first | rfl | decide +kernel)
set_option maxRecDepth 20000 in
theorem cw_yJ9_max_f86c9 : Cond.code yJ9_max_f86c9 cJ9_max_f86c9 4 ((some .long)) ∈ lw_tbl := tb_at 315 (by first | rfl | decide +kernel)
set_option maxRecDepth 20000 in
theorem cw_yX2_init : Cond.code yX2_init cX2_init 5 none ∈ lw_tbl := tb_at 319 (by first | rfl | decide +kernel)
set_option maxRecDepth 20000 in
theorem cw_yX7_settle : Cond.code yX7_settle cX7_settle 7 ((some .int)) ∈ lw_tbl := tb_at 345 (by first | rfl | decide +kernel)
set_option maxRecDepth 20000 in
theorem cw_yX7_drop : Cond.code yX7_drop cX7_drop 3 ((some .int)) ∈ lw_tbl := tb_at 350 (by first | rfl | decide +kernel)
set_option maxRecDepth 20000 in
theorem cw_yX7_mode : Cond.code yX7_mode cX7_mode 6 ((some .int)) ∈ lw_tbl := tb_at 354 (by first | rfl | decide +kernel)
set_option maxRecDepth 20000 in
theorem cw_yX7_pricesAt : Cond.code yX7_pricesAt cX7_pricesAt 4 ((some (.object "QuotaMeter$Prices"))) ∈ lw_tbl := tb_at 358 (by first | rfl | decide +kernel)
set_option maxRecDepth 20000 in
theorem cw_yX7_tier : Cond.code yX7_tier cX7_tier 9 ((some .int)) ∈ lw_tbl := tb_at 363 (by first | rfl | decide +kernel)
set_option maxRecDepth 20000 in
theorem cw_yX5_putTier : Cond.code yX5_putTier cX5_putTier 7 ((some .boolean)) ∈ lw_tbl := tb_at 368 (by first | rfl | decide +kernel)
set_option maxRecDepth 20000 in
theorem cw_yJ9_max_7cf53 : Cond.code yJ9_max_7cf53 cJ9_max_7cf53 2 ((some .int)) ∈ lw_tbl := tb_at 371 (by first | rfl | decide +kernel)
set_option maxRecDepth 20000 in
theorem cw_yX5_wouldRise : Cond.code yX5_wouldRise cX5_wouldRise 10 ((some .boolean)) ∈ lw_tbl := tb_at 375 (by first | rfl | decide +kernel)
set_option maxRecDepth 20000 in
theorem cw_yX7_tiers : Cond.code yX7_tiers cX7_tiers 5 ((some .int)) ∈ lw_tbl := tb_at 379 (by first | rfl | decide +kernel)
set_option maxRecDepth 20000 in
theorem cw_yJ9_min_7cf53 : Cond.code yJ9_min_7cf53 cJ9_min_7cf53 2 ((some .int)) ∈ lw_tbl := tb_at 382 (by first | rfl | decide +kernel)
set_option maxRecDepth 20000 in
theorem cw_yX7_cost : Cond.code yX7_cost cX7_cost 6 ((some .long)) ∈ lw_tbl := tb_at 386 (by first | rfl | decide +kernel)
set_option maxRecDepth 20000 in
theorem cw_yX7_terms : Cond.code yX7_terms cX7_terms 7 ((some .int)) ∈ lw_tbl := tb_at 392 (by first | rfl | decide +kernel)
set_option maxRecDepth 20000 in
theorem cw_yX7_isRate : Cond.code yX7_isRate cX7_isRate 1 ((some .boolean)) ∈ lw_tbl := tb_at 395 (by first | rfl | decide +kernel)
set_option maxRecDepth 20000 in
theorem cw_yX7_credit : Cond.code yX7_credit cX7_credit 6 ((some .int)) ∈ lw_tbl := tb_at 400 (by first | rfl | decide +kernel)
set_option maxRecDepth 20000 in
theorem cw_yX7_isPeriod : Cond.code yX7_isPeriod cX7_isPeriod 1 ((some .boolean)) ∈ lw_tbl := tb_at 403 (by first | rfl | decide +kernel)
set_option maxRecDepth 20000 in
theorem cw_yX1_give : Cond.code yX1_give cX1_give 4 ((some .int)) ∈ lw_tbl := tb_at 407 (by first | rfl | decide +kernel)
set_option maxRecDepth 20000 in
theorem cw_yX1_countLasting : Cond.code yX1_countLasting cX1_countLasting 3 ((some .int)) ∈ lw_tbl := tb_at 411 (by first | rfl | decide +kernel)
set_option maxRecDepth 20000 in
theorem cw_yX7_close : Cond.code yX7_close cX7_close 4 ((some .int)) ∈ lw_tbl := tb_at 415 (by first | rfl | decide +kernel)
set_option maxRecDepth 20000 in
theorem cw_yX3_init : Cond.code yX3_init cX3_init 3 none ∈ lw_tbl := tb_at 419 (by first | rfl | decide +kernel)
set_option maxRecDepth 20000 in
theorem cw_yX7_billUsage : Cond.code yX7_billUsage cX7_billUsage 6 none ∈ lw_tbl := tb_at 459 (by first | rfl | decide +kernel)
set_option maxRecDepth 20000 in
theorem cw_yX3_add : Cond.code yX3_add cX3_add 7 none ∈ lw_tbl := tb_at 463 (by first | rfl | decide +kernel)
set_option maxRecDepth 20000 in
theorem cw_yX6_billAdjustments : Cond.code yX6_billAdjustments cX6_billAdjustments 3 none ∈ lw_tbl := tb_at 467 (by first | rfl | decide +kernel)
set_option maxRecDepth 20000 in
theorem cw_yX6_billTerms : Cond.code yX6_billTerms cX6_billTerms 2 none ∈ lw_tbl := tb_at 472 (by first | rfl | decide +kernel)
set_option maxRecDepth 20000 in
theorem cw_yX3_partOfSum : Cond.code yX3_partOfSum cX3_partOfSum 9 ((some .long)) ∈ lw_tbl := tb_at 476 (by first | rfl | decide +kernel)
set_option maxRecDepth 20000 in
theorem cw_yJ9_floorMod_f86c9 : Cond.code yJ9_floorMod_f86c9 cJ9_floorMod_f86c9 6 ((some .long)) ∈ lw_tbl := tb_at 480 (by first | rfl | decide +kernel)
set_option maxRecDepth 20000 in
theorem cw_yJ9_floorDiv_f86c9 : Cond.code yJ9_floorDiv_f86c9 cJ9_floorDiv_f86c9 6 ((some .long)) ∈ lw_tbl := tb_at 483 (by first | rfl | decide +kernel)
set_option maxRecDepth 20000 in
theorem cw_yX3_addSome : Cond.code yX3_addSome cX3_addSome 4 none ∈ lw_tbl := tb_at 488 (by first | rfl | decide +kernel)
set_option maxRecDepth 20000 in
theorem cw_yX1_payFor : Cond.code yX1_payFor cX1_payFor 6 none ∈ lw_tbl := tb_at 494 (by first | rfl | decide +kernel)
set_option maxRecDepth 20000 in
theorem cw_yX1_nextToUse : Cond.code yX1_nextToUse cX1_nextToUse 3 ((some .int)) ∈ lw_tbl := tb_at 498 (by first | rfl | decide +kernel)
set_option maxRecDepth 20000 in
theorem cw_yX6_endPeriod : Cond.code yX6_endPeriod cX6_endPeriod 2 none ∈ lw_tbl := tb_at 504 (by first | rfl | decide +kernel)
set_option maxRecDepth 20000 in
theorem cw_yX5_copyFrom : Cond.code yX5_copyFrom cX5_copyFrom 3 none ∈ lw_tbl := tb_at 508 (by first | rfl | decide +kernel)
set_option maxRecDepth 20000 in
theorem cw_yX1_endIn : Cond.code yX1_endIn cX1_endIn 3 none ∈ lw_tbl := tb_at 512 (by first | rfl | decide +kernel)
set_option maxRecDepth 20000 in
theorem cw_yX7_used : Cond.code yX7_used cX7_used 5 ((some .long)) ∈ lw_tbl := tb_at 516 (by first | rfl | decide +kernel)
set_option maxRecDepth 20000 in
theorem cw_yX7_held : Cond.code yX7_held cX7_held 4 ((some .int)) ∈ lw_tbl := tb_at 520 (by first | rfl | decide +kernel)
set_option maxRecDepth 20000 in
theorem cw_yX7_room : Cond.code yX7_room cX7_room 4 ((some .int)) ∈ lw_tbl := tb_at 524 (by first | rfl | decide +kernel)
set_option maxRecDepth 20000 in
theorem cw_yX7_hold : Cond.code yX7_hold cX7_hold 4 ((some .int)) ∈ lw_tbl := tb_at 528 (by first | rfl | decide +kernel)
set_option maxRecDepth 20000 in
theorem cw_yX7_line : Cond.code yX7_line cX7_line 5 ((some .long)) ∈ lw_tbl := tb_at 532 (by first | rfl | decide +kernel)
set_option maxRecDepth 20000 in
theorem cw_yX7_invoiceAt : Cond.code yX7_invoiceAt cX7_invoiceAt 2 ((some (.object "QuotaMeter$Invoice"))) ∈ lw_tbl := tb_at 536 (by first | rfl | decide +kernel)
set_option maxRecDepth 20000 in
theorem cw_yX7_invoice : Cond.code yX7_invoice cX7_invoice 4 ((some .long)) ∈ lw_tbl := tb_at 540 (by first | rfl | decide +kernel)
set_option maxRecDepth 20000 in
theorem cw_yX7_left : Cond.code yX7_left cX7_left 4 ((some .long)) ∈ lw_tbl := tb_at 544 (by first | rfl | decide +kernel)
set_option maxRecDepth 20000 in
theorem cw_yX7_count : Cond.code yX7_count cX7_count 2 ((some .int)) ∈ lw_tbl := tb_at 548 (by first | rfl | decide +kernel)
set_option maxRecDepth 20000 in
theorem cw_yX7_closed : Cond.code yX7_closed cX7_closed 3 ((some .int)) ∈ lw_tbl := tb_at 552 (by first | rfl | decide +kernel)
set_option maxRecDepth 20000 in
theorem cw_yX8_account : Cond.code yX8_account cX8_account 4 ((some .int)) ∈ lw_tbl := tb_at 556 (by first | rfl | decide +kernel)
set_option maxRecDepth 20000 in
theorem cw_yX8_isTenant : Cond.code yX8_isTenant cX8_isTenant 1 ((some .boolean)) ∈ lw_tbl := tb_at 559 (by first | rfl | decide +kernel)
set_option maxRecDepth 20000 in
theorem cw_yX8_isAccount : Cond.code yX8_isAccount cX8_isAccount 2 ((some .boolean)) ∈ lw_tbl := tb_at 564 (by first | rfl | decide +kernel)
set_option maxRecDepth 20000 in
theorem cw_yX8_tick : Cond.code yX8_tick cX8_tick 2 ((some .int)) ∈ lw_tbl := tb_at 568 (by first | rfl | decide +kernel)
set_option maxRecDepth 20000 in
theorem cw_yX8_limit : Cond.code yX8_limit cX8_limit 4 ((some .int)) ∈ lw_tbl := tb_at 573 (by first | rfl | decide +kernel)
set_option maxRecDepth 20000 in
theorem cw_yX8_isResource : Cond.code yX8_isResource cX8_isResource 1 ((some .boolean)) ∈ lw_tbl := tb_at 576 (by first | rfl | decide +kernel)
set_option maxRecDepth 20000 in
theorem cw_yX8_event : Cond.code yX8_event cX8_event 7 ((some .int)) ∈ lw_tbl := tb_at 581 (by first | rfl | decide +kernel)
set_option maxRecDepth 20000 in
theorem cw_yX8_areUnits : Cond.code yX8_areUnits cX8_areUnits 1 ((some .boolean)) ∈ lw_tbl := tb_at 584 (by first | rfl | decide +kernel)
set_option maxRecDepth 20000 in
theorem cw_yX8_come : Cond.code yX8_come cX8_come 10 ((some .int)) ∈ lw_tbl := tb_at 589 (by first | rfl | decide +kernel)
set_option maxRecDepth 20000 in
theorem cw_yX8_forget : Cond.code yX8_forget cX8_forget 3 none ∈ lw_tbl := tb_at 593 (by first | rfl | decide +kernel)
set_option maxRecDepth 20000 in
theorem cw_yX8_adjust : Cond.code yX8_adjust cX8_adjust 9 none ∈ lw_tbl := tb_at 597 (by first | rfl | decide +kernel)
set_option maxRecDepth 20000 in
theorem cw_yX8_invoiceOf : Cond.code yX8_invoiceOf cX8_invoiceOf 4 ((some .int)) ∈ lw_tbl := tb_at 601 (by first | rfl | decide +kernel)
set_option maxRecDepth 20000 in
theorem cw_yX8_quantity : Cond.code yX8_quantity cX8_quantity 7 ((some .long)) ∈ lw_tbl := tb_at 605 (by first | rfl | decide +kernel)
set_option maxRecDepth 20000 in
theorem cw_yX8_cell : Cond.code yX8_cell cX8_cell 3 ((some .int)) ∈ lw_tbl := tb_at 608 (by first | rfl | decide +kernel)
set_option maxRecDepth 20000 in
theorem cw_yX8_costOf : Cond.code yX8_costOf cX8_costOf 20 ((some .long)) ∈ lw_tbl := tb_at 612 (by first | rfl | decide +kernel)
set_option maxRecDepth 20000 in
theorem cw_yX8_used : Cond.code yX8_used cX8_used 4 ((some .long)) ∈ lw_tbl := tb_at 618 (by first | rfl | decide +kernel)
set_option maxRecDepth 20000 in
theorem cw_yX8_usedOf : Cond.code yX8_usedOf cX8_usedOf 7 ((some .long)) ∈ lw_tbl := tb_at 622 (by first | rfl | decide +kernel)
set_option maxRecDepth 20000 in
theorem cw_yX8_lies : Cond.code yX8_lies cX8_lies 4 ((some .boolean)) ∈ lw_tbl := tb_at 626 (by first | rfl | decide +kernel)
set_option maxRecDepth 20000 in
theorem cw_yX8_held : Cond.code yX8_held cX8_held 3 ((some .int)) ∈ lw_tbl := tb_at 631 (by first | rfl | decide +kernel)
set_option maxRecDepth 20000 in
theorem cw_yX8_heldOf : Cond.code yX8_heldOf cX8_heldOf 5 ((some .int)) ∈ lw_tbl := tb_at 635 (by first | rfl | decide +kernel)
set_option maxRecDepth 20000 in
theorem cw_yX8_isOpen : Cond.code yX8_isOpen cX8_isOpen 2 ((some .boolean)) ∈ lw_tbl := tb_at 639 (by first | rfl | decide +kernel)
set_option maxRecDepth 20000 in
theorem cw_yX8_room : Cond.code yX8_room cX8_room 3 ((some .int)) ∈ lw_tbl := tb_at 643 (by first | rfl | decide +kernel)
set_option maxRecDepth 20000 in
theorem cw_yX8_roomOf : Cond.code yX8_roomOf cX8_roomOf 6 ((some .long)) ∈ lw_tbl := tb_at 647 (by first | rfl | decide +kernel)
set_option maxRecDepth 20000 in
theorem cw_yX8_request : Cond.code yX8_request cX8_request 4 ((some .int)) ∈ lw_tbl := tb_at 653 (by first | rfl | decide +kernel)
set_option maxRecDepth 20000 in
theorem cw_yX8_open : Cond.code yX8_open cX8_open 3 ((some .int)) ∈ lw_tbl := tb_at 657 (by first | rfl | decide +kernel)
set_option maxRecDepth 20000 in
theorem cw_yX8_settle : Cond.code yX8_settle cX8_settle 6 ((some .int)) ∈ lw_tbl := tb_at 661 (by first | rfl | decide +kernel)
set_option maxRecDepth 20000 in
theorem cw_yX8_drop : Cond.code yX8_drop cX8_drop 2 ((some .int)) ∈ lw_tbl := tb_at 665 (by first | rfl | decide +kernel)
set_option maxRecDepth 20000 in
theorem cw_yX8_hold : Cond.code yX8_hold cX8_hold 3 ((some .int)) ∈ lw_tbl := tb_at 669 (by first | rfl | decide +kernel)
set_option maxRecDepth 20000 in
theorem cw_yX8_init : Cond.code yX8_init cX8_init 2 none ∈ lw_tbl := tb_at 673 (by first | rfl | decide +kernel)
set_option maxRecDepth 20000 in
theorem cw_yX8_mode : Cond.code yX8_mode cX8_mode 5 ((some .int)) ∈ lw_tbl := tb_at 776 (by first | rfl | decide +kernel)
set_option maxRecDepth 20000 in
theorem cw_yX8_row : Cond.code yX8_row cX8_row 2 ((some .int)) ∈ lw_tbl := tb_at 780 (by first | rfl | decide +kernel)
set_option maxRecDepth 20000 in
theorem cw_yX8_tier : Cond.code yX8_tier cX8_tier 17 ((some .int)) ∈ lw_tbl := tb_at 784 (by first | rfl | decide +kernel)
set_option maxRecDepth 20000 in
theorem cw_yX8_tiers : Cond.code yX8_tiers cX8_tiers 5 ((some .int)) ∈ lw_tbl := tb_at 789 (by first | rfl | decide +kernel)
set_option maxRecDepth 20000 in
theorem cw_yX8_cost : Cond.code yX8_cost cX8_cost 5 ((some .long)) ∈ lw_tbl := tb_at 793 (by first | rfl | decide +kernel)
set_option maxRecDepth 20000 in
theorem cw_yX8_terms : Cond.code yX8_terms cX8_terms 6 ((some .int)) ∈ lw_tbl := tb_at 797 (by first | rfl | decide +kernel)
set_option maxRecDepth 20000 in
theorem cw_yX8_credit : Cond.code yX8_credit cX8_credit 7 ((some .int)) ∈ lw_tbl := tb_at 802 (by first | rfl | decide +kernel)
set_option maxRecDepth 20000 in
theorem cw_yX8_leftOf : Cond.code yX8_leftOf cX8_leftOf 4 ((some .long)) ∈ lw_tbl := tb_at 806 (by first | rfl | decide +kernel)
set_option maxRecDepth 20000 in
theorem cw_yX8_left : Cond.code yX8_left cX8_left 3 ((some .long)) ∈ lw_tbl := tb_at 810 (by first | rfl | decide +kernel)
set_option maxRecDepth 20000 in
theorem cw_yX8_close : Cond.code yX8_close cX8_close 10 ((some .int)) ∈ lw_tbl := tb_at 814 (by first | rfl | decide +kernel)
set_option maxRecDepth 20000 in
theorem cw_yX8_line : Cond.code yX8_line cX8_line 8 none ∈ lw_tbl := tb_at 821 (by first | rfl | decide +kernel)
set_option maxRecDepth 20000 in
theorem cw_yX8_part : Cond.code yX8_part cX8_part 8 ((some .long)) ∈ lw_tbl := tb_at 824 (by first | rfl | decide +kernel)
set_option maxRecDepth 20000 in
theorem cw_yX8_useCredits : Cond.code yX8_useCredits cX8_useCredits 11 none ∈ lw_tbl := tb_at 832 (by first | rfl | decide +kernel)
set_option maxRecDepth 20000 in
theorem cw_yX8_line_ : Cond.code yX8_line_ cX8_line_ 4 ((some .long)) ∈ lw_tbl := tb_at 836 (by first | rfl | decide +kernel)
set_option maxRecDepth 20000 in
theorem cw_yX8_invoice : Cond.code yX8_invoice cX8_invoice 6 ((some .long)) ∈ lw_tbl := tb_at 840 (by first | rfl | decide +kernel)
set_option maxRecDepth 20000 in
theorem cw_yX8_count : Cond.code yX8_count cX8_count 2 ((some .int)) ∈ lw_tbl := tb_at 844 (by first | rfl | decide +kernel)
set_option maxRecDepth 20000 in
theorem cw_yX8_closed : Cond.code yX8_closed cX8_closed 2 ((some .int)) ∈ lw_tbl := tb_at 848 (by first | rfl | decide +kernel)
theorem im_yX7_init : Cond.instanceMethod yX7_init ∈ lw_tbl := tb_at 15 (by decide +kernel)
theorem im_objectInit : Cond.instanceMethod objectInit ∈ lw_tbl := tb_at 18 (by decide +kernel)
theorem im_yX4_init : Cond.instanceMethod yX4_init ∈ lw_tbl := tb_at 31 (by decide +kernel)
theorem im_yX6_init : Cond.instanceMethod yX6_init ∈ lw_tbl := tb_at 52 (by decide +kernel)
theorem im_yX1_init : Cond.instanceMethod yX1_init ∈ lw_tbl := tb_at 60 (by decide +kernel)
theorem im_yX5_init : Cond.instanceMethod yX5_init ∈ lw_tbl := tb_at 77 (by decide +kernel)
theorem im_yX7_account : Cond.instanceMethod yX7_account ∈ lw_tbl := tb_at 172 (by decide +kernel)
theorem im_yX7_tenantAt : Cond.instanceMethod yX7_tenantAt ∈ lw_tbl := tb_at 177 (by decide +kernel)
theorem im_yX7_accountAt : Cond.instanceMethod yX7_accountAt ∈ lw_tbl := tb_at 181 (by decide +kernel)
theorem im_yX0_init : Cond.instanceMethod yX0_init ∈ lw_tbl := tb_at 185 (by decide +kernel)
theorem im_yX7_tick : Cond.instanceMethod yX7_tick ∈ lw_tbl := tb_at 216 (by decide +kernel)
theorem im_yX4_forgetOld : Cond.instanceMethod yX4_forgetOld ∈ lw_tbl := tb_at 221 (by decide +kernel)
theorem im_yX7_endOldHolds : Cond.instanceMethod yX7_endOldHolds ∈ lw_tbl := tb_at 226 (by decide +kernel)
theorem im_yX7_openHoldAt : Cond.instanceMethod yX7_openHoldAt ∈ lw_tbl := tb_at 230 (by decide +kernel)
theorem im_yX7_holdAt : Cond.instanceMethod yX7_holdAt ∈ lw_tbl := tb_at 234 (by decide +kernel)
theorem im_yX7_endHold : Cond.instanceMethod yX7_endHold ∈ lw_tbl := tb_at 238 (by decide +kernel)
theorem im_yX0_addHeld : Cond.instanceMethod yX0_addHeld ∈ lw_tbl := tb_at 241 (by decide +kernel)
theorem im_yX7_event : Cond.instanceMethod yX7_event ∈ lw_tbl := tb_at 245 (by decide +kernel)
theorem im_yX4_knows : Cond.instanceMethod yX4_knows ∈ lw_tbl := tb_at 256 (by decide +kernel)
theorem im_yX4_learn : Cond.instanceMethod yX4_learn ∈ lw_tbl := tb_at 260 (by decide +kernel)
theorem im_yX7_countUnits : Cond.instanceMethod yX7_countUnits ∈ lw_tbl := tb_at 265 (by decide +kernel)
theorem im_yX7_quantityOf : Cond.instanceMethod yX7_quantityOf ∈ lw_tbl := tb_at 269 (by decide +kernel)
theorem im_yX6_adjust : Cond.instanceMethod yX6_adjust ∈ lw_tbl := tb_at 272 (by decide +kernel)
theorem im_yX5_costOf : Cond.instanceMethod yX5_costOf ∈ lw_tbl := tb_at 276 (by decide +kernel)
theorem im_yX5_costAtLastTier : Cond.instanceMethod yX5_costAtLastTier ∈ lw_tbl := tb_at 281 (by decide +kernel)
theorem im_yX5_costByTiers : Cond.instanceMethod yX5_costByTiers ∈ lw_tbl := tb_at 285 (by decide +kernel)
theorem im_yX5_pricedParts : Cond.instanceMethod yX5_pricedParts ∈ lw_tbl := tb_at 292 (by decide +kernel)
theorem im_yX0_addUsed : Cond.instanceMethod yX0_addUsed ∈ lw_tbl := tb_at 295 (by decide +kernel)
theorem im_yX7_limit : Cond.instanceMethod yX7_limit ∈ lw_tbl := tb_at 299 (by decide +kernel)
theorem im_yX7_request : Cond.instanceMethod yX7_request ∈ lw_tbl := tb_at 304 (by decide +kernel)
theorem im_yX0_freeUnits : Cond.instanceMethod yX0_freeUnits ∈ lw_tbl := tb_at 308 (by decide +kernel)
theorem im_yX2_init : Cond.instanceMethod yX2_init ∈ lw_tbl := tb_at 318 (by decide +kernel)
theorem im_yX7_settle : Cond.instanceMethod yX7_settle ∈ lw_tbl := tb_at 343 (by decide +kernel)
theorem im_yX7_drop : Cond.instanceMethod yX7_drop ∈ lw_tbl := tb_at 348 (by decide +kernel)
theorem im_yX7_mode : Cond.instanceMethod yX7_mode ∈ lw_tbl := tb_at 352 (by decide +kernel)
theorem im_yX7_pricesAt : Cond.instanceMethod yX7_pricesAt ∈ lw_tbl := tb_at 357 (by decide +kernel)
theorem im_yX7_tier : Cond.instanceMethod yX7_tier ∈ lw_tbl := tb_at 361 (by decide +kernel)
theorem im_yX5_putTier : Cond.instanceMethod yX5_putTier ∈ lw_tbl := tb_at 366 (by decide +kernel)
theorem im_yX5_wouldRise : Cond.instanceMethod yX5_wouldRise ∈ lw_tbl := tb_at 374 (by decide +kernel)
theorem im_yX7_tiers : Cond.instanceMethod yX7_tiers ∈ lw_tbl := tb_at 377 (by decide +kernel)
theorem im_yX7_cost : Cond.instanceMethod yX7_cost ∈ lw_tbl := tb_at 384 (by decide +kernel)
theorem im_yX7_terms : Cond.instanceMethod yX7_terms ∈ lw_tbl := tb_at 390 (by decide +kernel)
theorem im_yX7_credit : Cond.instanceMethod yX7_credit ∈ lw_tbl := tb_at 398 (by decide +kernel)
theorem im_yX1_give : Cond.instanceMethod yX1_give ∈ lw_tbl := tb_at 405 (by decide +kernel)
theorem im_yX1_countLasting : Cond.instanceMethod yX1_countLasting ∈ lw_tbl := tb_at 410 (by decide +kernel)
theorem im_yX7_close : Cond.instanceMethod yX7_close ∈ lw_tbl := tb_at 413 (by decide +kernel)
theorem im_yX3_init : Cond.instanceMethod yX3_init ∈ lw_tbl := tb_at 418 (by decide +kernel)
theorem im_yX7_billUsage : Cond.instanceMethod yX7_billUsage ∈ lw_tbl := tb_at 458 (by decide +kernel)
theorem im_yX3_add : Cond.instanceMethod yX3_add ∈ lw_tbl := tb_at 461 (by decide +kernel)
theorem im_yX6_billAdjustments : Cond.instanceMethod yX6_billAdjustments ∈ lw_tbl := tb_at 465 (by decide +kernel)
theorem im_yX6_billTerms : Cond.instanceMethod yX6_billTerms ∈ lw_tbl := tb_at 470 (by decide +kernel)
theorem im_yX3_partOfSum : Cond.instanceMethod yX3_partOfSum ∈ lw_tbl := tb_at 474 (by decide +kernel)
theorem im_yX3_addSome : Cond.instanceMethod yX3_addSome ∈ lw_tbl := tb_at 486 (by decide +kernel)
theorem im_yX1_payFor : Cond.instanceMethod yX1_payFor ∈ lw_tbl := tb_at 492 (by decide +kernel)
theorem im_yX1_nextToUse : Cond.instanceMethod yX1_nextToUse ∈ lw_tbl := tb_at 497 (by decide +kernel)
theorem im_yX6_endPeriod : Cond.instanceMethod yX6_endPeriod ∈ lw_tbl := tb_at 502 (by decide +kernel)
theorem im_yX5_copyFrom : Cond.instanceMethod yX5_copyFrom ∈ lw_tbl := tb_at 506 (by decide +kernel)
theorem im_yX1_endIn : Cond.instanceMethod yX1_endIn ∈ lw_tbl := tb_at 510 (by decide +kernel)
theorem im_yX7_used : Cond.instanceMethod yX7_used ∈ lw_tbl := tb_at 514 (by decide +kernel)
theorem im_yX7_held : Cond.instanceMethod yX7_held ∈ lw_tbl := tb_at 518 (by decide +kernel)
theorem im_yX7_room : Cond.instanceMethod yX7_room ∈ lw_tbl := tb_at 522 (by decide +kernel)
theorem im_yX7_hold : Cond.instanceMethod yX7_hold ∈ lw_tbl := tb_at 526 (by decide +kernel)
theorem im_yX7_line : Cond.instanceMethod yX7_line ∈ lw_tbl := tb_at 530 (by decide +kernel)
theorem im_yX7_invoiceAt : Cond.instanceMethod yX7_invoiceAt ∈ lw_tbl := tb_at 535 (by decide +kernel)
theorem im_yX7_invoice : Cond.instanceMethod yX7_invoice ∈ lw_tbl := tb_at 538 (by decide +kernel)
theorem im_yX7_left : Cond.instanceMethod yX7_left ∈ lw_tbl := tb_at 542 (by decide +kernel)
theorem im_yX7_count : Cond.instanceMethod yX7_count ∈ lw_tbl := tb_at 546 (by decide +kernel)
theorem im_yX7_closed : Cond.instanceMethod yX7_closed ∈ lw_tbl := tb_at 550 (by decide +kernel)
theorem im_yX8_account : Cond.instanceMethod yX8_account ∈ lw_tbl := tb_at 554 (by decide +kernel)
theorem im_yX8_isAccount : Cond.instanceMethod yX8_isAccount ∈ lw_tbl := tb_at 562 (by decide +kernel)
theorem im_yX8_tick : Cond.instanceMethod yX8_tick ∈ lw_tbl := tb_at 566 (by decide +kernel)
theorem im_yX8_limit : Cond.instanceMethod yX8_limit ∈ lw_tbl := tb_at 571 (by decide +kernel)
theorem im_yX8_event : Cond.instanceMethod yX8_event ∈ lw_tbl := tb_at 579 (by decide +kernel)
theorem im_yX8_come : Cond.instanceMethod yX8_come ∈ lw_tbl := tb_at 588 (by decide +kernel)
theorem im_yX8_forget : Cond.instanceMethod yX8_forget ∈ lw_tbl := tb_at 592 (by decide +kernel)
theorem im_yX8_adjust : Cond.instanceMethod yX8_adjust ∈ lw_tbl := tb_at 596 (by decide +kernel)
theorem im_yX8_invoiceOf : Cond.instanceMethod yX8_invoiceOf ∈ lw_tbl := tb_at 600 (by decide +kernel)
theorem im_yX8_quantity : Cond.instanceMethod yX8_quantity ∈ lw_tbl := tb_at 604 (by decide +kernel)
theorem im_yX8_costOf : Cond.instanceMethod yX8_costOf ∈ lw_tbl := tb_at 611 (by decide +kernel)
theorem im_yX8_used : Cond.instanceMethod yX8_used ∈ lw_tbl := tb_at 616 (by decide +kernel)
theorem im_yX8_usedOf : Cond.instanceMethod yX8_usedOf ∈ lw_tbl := tb_at 621 (by decide +kernel)
theorem im_yX8_lies : Cond.instanceMethod yX8_lies ∈ lw_tbl := tb_at 625 (by decide +kernel)
theorem im_yX8_held : Cond.instanceMethod yX8_held ∈ lw_tbl := tb_at 629 (by decide +kernel)
theorem im_yX8_heldOf : Cond.instanceMethod yX8_heldOf ∈ lw_tbl := tb_at 634 (by decide +kernel)
theorem im_yX8_isOpen : Cond.instanceMethod yX8_isOpen ∈ lw_tbl := tb_at 638 (by decide +kernel)
theorem im_yX8_room : Cond.instanceMethod yX8_room ∈ lw_tbl := tb_at 641 (by decide +kernel)
theorem im_yX8_roomOf : Cond.instanceMethod yX8_roomOf ∈ lw_tbl := tb_at 646 (by decide +kernel)
theorem im_yX8_request : Cond.instanceMethod yX8_request ∈ lw_tbl := tb_at 651 (by decide +kernel)
theorem im_yX8_open : Cond.instanceMethod yX8_open ∈ lw_tbl := tb_at 656 (by decide +kernel)
theorem im_yX8_settle : Cond.instanceMethod yX8_settle ∈ lw_tbl := tb_at 659 (by decide +kernel)
theorem im_yX8_drop : Cond.instanceMethod yX8_drop ∈ lw_tbl := tb_at 663 (by decide +kernel)
theorem im_yX8_hold : Cond.instanceMethod yX8_hold ∈ lw_tbl := tb_at 667 (by decide +kernel)
theorem im_yX8_init : Cond.instanceMethod yX8_init ∈ lw_tbl := tb_at 672 (by decide +kernel)
theorem im_yX8_mode : Cond.instanceMethod yX8_mode ∈ lw_tbl := tb_at 774 (by decide +kernel)
theorem im_yX8_tier : Cond.instanceMethod yX8_tier ∈ lw_tbl := tb_at 782 (by decide +kernel)
theorem im_yX8_tiers : Cond.instanceMethod yX8_tiers ∈ lw_tbl := tb_at 787 (by decide +kernel)
theorem im_yX8_cost : Cond.instanceMethod yX8_cost ∈ lw_tbl := tb_at 791 (by decide +kernel)
theorem im_yX8_terms : Cond.instanceMethod yX8_terms ∈ lw_tbl := tb_at 795 (by decide +kernel)
theorem im_yX8_credit : Cond.instanceMethod yX8_credit ∈ lw_tbl := tb_at 800 (by decide +kernel)
theorem im_yX8_leftOf : Cond.instanceMethod yX8_leftOf ∈ lw_tbl := tb_at 805 (by decide +kernel)
theorem im_yX8_left : Cond.instanceMethod yX8_left ∈ lw_tbl := tb_at 808 (by decide +kernel)
theorem im_yX8_close : Cond.instanceMethod yX8_close ∈ lw_tbl := tb_at 812 (by decide +kernel)
theorem im_yX8_line : Cond.instanceMethod yX8_line ∈ lw_tbl := tb_at 820 (by decide +kernel)
theorem im_yX8_useCredits : Cond.instanceMethod yX8_useCredits ∈ lw_tbl := tb_at 831 (by decide +kernel)
theorem im_yX8_line_ : Cond.instanceMethod yX8_line_ ∈ lw_tbl := tb_at 834 (by decide +kernel)
theorem im_yX8_invoice : Cond.instanceMethod yX8_invoice ∈ lw_tbl := tb_at 838 (by decide +kernel)
theorem im_yX8_count : Cond.instanceMethod yX8_count ∈ lw_tbl := tb_at 842 (by decide +kernel)
theorem im_yX8_closed : Cond.instanceMethod yX8_closed ∈ lw_tbl := tb_at 846 (by decide +kernel)
theorem sm_yX7_isResource : Cond.static yX7_isResource ∈ lw_tbl := tb_at 249 (by decide +kernel)
theorem sm_yX7_isUnits : Cond.static yX7_isUnits ∈ lw_tbl := tb_at 252 (by decide +kernel)
theorem sm_yJ9_min_f86c9 : Cond.static yJ9_min_f86c9 ∈ lw_tbl := tb_at 288 (by decide +kernel)
theorem sm_yJ9_max_f86c9 : Cond.static yJ9_max_f86c9 ∈ lw_tbl := tb_at 314 (by decide +kernel)
theorem sm_yJ9_max_7cf53 : Cond.static yJ9_max_7cf53 ∈ lw_tbl := tb_at 370 (by decide +kernel)
theorem sm_yJ9_min_7cf53 : Cond.static yJ9_min_7cf53 ∈ lw_tbl := tb_at 381 (by decide +kernel)
theorem sm_yX7_isRate : Cond.static yX7_isRate ∈ lw_tbl := tb_at 394 (by decide +kernel)
theorem sm_yX7_isPeriod : Cond.static yX7_isPeriod ∈ lw_tbl := tb_at 402 (by decide +kernel)
theorem sm_yJ9_floorMod_f86c9 : Cond.static yJ9_floorMod_f86c9 ∈ lw_tbl := tb_at 479 (by decide +kernel)
theorem sm_yJ9_floorDiv_f86c9 : Cond.static yJ9_floorDiv_f86c9 ∈ lw_tbl := tb_at 482 (by decide +kernel)
theorem sm_yX8_isTenant : Cond.static yX8_isTenant ∈ lw_tbl := tb_at 558 (by decide +kernel)
theorem sm_yX8_isResource : Cond.static yX8_isResource ∈ lw_tbl := tb_at 575 (by decide +kernel)
theorem sm_yX8_areUnits : Cond.static yX8_areUnits ∈ lw_tbl := tb_at 583 (by decide +kernel)
theorem sm_yX8_cell : Cond.static yX8_cell ∈ lw_tbl := tb_at 607 (by decide +kernel)
theorem sm_yX8_row : Cond.static yX8_row ∈ lw_tbl := tb_at 779 (by decide +kernel)
theorem sm_arraycopyName : Cond.static arraycopyName ∈ lw_tbl := tb_at 816 (by decide +kernel)
theorem sm_yX8_part : Cond.static yX8_part ∈ lw_tbl := tb_at 823 (by decide +kernel)
theorem se_yX7_account : Cond.selects yX7_account.cls yX7_account yX7_account ∈ lw_tbl := tb_at 173 (by decide +kernel)
theorem se_yX7_tick : Cond.selects yX7_tick.cls yX7_tick yX7_tick ∈ lw_tbl := tb_at 217 (by decide +kernel)
theorem se_yX4_forgetOld : Cond.selects yX4_forgetOld.cls yX4_forgetOld yX4_forgetOld ∈ lw_tbl := tb_at 222 (by decide +kernel)
theorem se_yX0_addHeld : Cond.selects yX0_addHeld.cls yX0_addHeld yX0_addHeld ∈ lw_tbl := tb_at 242 (by decide +kernel)
theorem se_yX7_event : Cond.selects yX7_event.cls yX7_event yX7_event ∈ lw_tbl := tb_at 246 (by decide +kernel)
theorem se_yX4_knows : Cond.selects yX4_knows.cls yX4_knows yX4_knows ∈ lw_tbl := tb_at 257 (by decide +kernel)
theorem se_yX4_learn : Cond.selects yX4_learn.cls yX4_learn yX4_learn ∈ lw_tbl := tb_at 261 (by decide +kernel)
theorem se_yX6_adjust : Cond.selects yX6_adjust.cls yX6_adjust yX6_adjust ∈ lw_tbl := tb_at 273 (by decide +kernel)
theorem se_yX5_costOf : Cond.selects yX5_costOf.cls yX5_costOf yX5_costOf ∈ lw_tbl := tb_at 277 (by decide +kernel)
theorem se_yX0_addUsed : Cond.selects yX0_addUsed.cls yX0_addUsed yX0_addUsed ∈ lw_tbl := tb_at 296 (by decide +kernel)
theorem se_yX7_limit : Cond.selects yX7_limit.cls yX7_limit yX7_limit ∈ lw_tbl := tb_at 300 (by decide +kernel)
theorem se_yX7_request : Cond.selects yX7_request.cls yX7_request yX7_request ∈ lw_tbl := tb_at 305 (by decide +kernel)
theorem se_yX0_freeUnits : Cond.selects yX0_freeUnits.cls yX0_freeUnits yX0_freeUnits ∈ lw_tbl := tb_at 309 (by decide +kernel)
theorem se_yX7_settle : Cond.selects yX7_settle.cls yX7_settle yX7_settle ∈ lw_tbl := tb_at 344 (by decide +kernel)
theorem se_yX7_drop : Cond.selects yX7_drop.cls yX7_drop yX7_drop ∈ lw_tbl := tb_at 349 (by decide +kernel)
theorem se_yX7_mode : Cond.selects yX7_mode.cls yX7_mode yX7_mode ∈ lw_tbl := tb_at 353 (by decide +kernel)
theorem se_yX7_tier : Cond.selects yX7_tier.cls yX7_tier yX7_tier ∈ lw_tbl := tb_at 362 (by decide +kernel)
theorem se_yX5_putTier : Cond.selects yX5_putTier.cls yX5_putTier yX5_putTier ∈ lw_tbl := tb_at 367 (by decide +kernel)
theorem se_yX7_tiers : Cond.selects yX7_tiers.cls yX7_tiers yX7_tiers ∈ lw_tbl := tb_at 378 (by decide +kernel)
theorem se_yX7_cost : Cond.selects yX7_cost.cls yX7_cost yX7_cost ∈ lw_tbl := tb_at 385 (by decide +kernel)
theorem se_yX7_terms : Cond.selects yX7_terms.cls yX7_terms yX7_terms ∈ lw_tbl := tb_at 391 (by decide +kernel)
theorem se_yX7_credit : Cond.selects yX7_credit.cls yX7_credit yX7_credit ∈ lw_tbl := tb_at 399 (by decide +kernel)
theorem se_yX1_give : Cond.selects yX1_give.cls yX1_give yX1_give ∈ lw_tbl := tb_at 406 (by decide +kernel)
theorem se_yX7_close : Cond.selects yX7_close.cls yX7_close yX7_close ∈ lw_tbl := tb_at 414 (by decide +kernel)
theorem se_yX3_add : Cond.selects yX3_add.cls yX3_add yX3_add ∈ lw_tbl := tb_at 462 (by decide +kernel)
theorem se_yX6_billAdjustments : Cond.selects yX6_billAdjustments.cls yX6_billAdjustments yX6_billAdjustments ∈ lw_tbl := tb_at 466 (by decide +kernel)
theorem se_yX6_billTerms : Cond.selects yX6_billTerms.cls yX6_billTerms yX6_billTerms ∈ lw_tbl := tb_at 471 (by decide +kernel)
theorem se_yX3_partOfSum : Cond.selects yX3_partOfSum.cls yX3_partOfSum yX3_partOfSum ∈ lw_tbl := tb_at 475 (by decide +kernel)
theorem se_yX3_addSome : Cond.selects yX3_addSome.cls yX3_addSome yX3_addSome ∈ lw_tbl := tb_at 487 (by decide +kernel)
theorem se_yX1_payFor : Cond.selects yX1_payFor.cls yX1_payFor yX1_payFor ∈ lw_tbl := tb_at 493 (by decide +kernel)
theorem se_yX6_endPeriod : Cond.selects yX6_endPeriod.cls yX6_endPeriod yX6_endPeriod ∈ lw_tbl := tb_at 503 (by decide +kernel)
theorem se_yX5_copyFrom : Cond.selects yX5_copyFrom.cls yX5_copyFrom yX5_copyFrom ∈ lw_tbl := tb_at 507 (by decide +kernel)
theorem se_yX1_endIn : Cond.selects yX1_endIn.cls yX1_endIn yX1_endIn ∈ lw_tbl := tb_at 511 (by decide +kernel)
theorem se_yX7_used : Cond.selects yX7_used.cls yX7_used yX7_used ∈ lw_tbl := tb_at 515 (by decide +kernel)
theorem se_yX7_held : Cond.selects yX7_held.cls yX7_held yX7_held ∈ lw_tbl := tb_at 519 (by decide +kernel)
theorem se_yX7_room : Cond.selects yX7_room.cls yX7_room yX7_room ∈ lw_tbl := tb_at 523 (by decide +kernel)
theorem se_yX7_hold : Cond.selects yX7_hold.cls yX7_hold yX7_hold ∈ lw_tbl := tb_at 527 (by decide +kernel)
theorem se_yX7_line : Cond.selects yX7_line.cls yX7_line yX7_line ∈ lw_tbl := tb_at 531 (by decide +kernel)
theorem se_yX7_invoice : Cond.selects yX7_invoice.cls yX7_invoice yX7_invoice ∈ lw_tbl := tb_at 539 (by decide +kernel)
theorem se_yX7_left : Cond.selects yX7_left.cls yX7_left yX7_left ∈ lw_tbl := tb_at 543 (by decide +kernel)
theorem se_yX7_count : Cond.selects yX7_count.cls yX7_count yX7_count ∈ lw_tbl := tb_at 547 (by decide +kernel)
theorem se_yX7_closed : Cond.selects yX7_closed.cls yX7_closed yX7_closed ∈ lw_tbl := tb_at 551 (by decide +kernel)
theorem se_yX8_account : Cond.selects yX8_account.cls yX8_account yX8_account ∈ lw_tbl := tb_at 555 (by decide +kernel)
theorem se_yX8_tick : Cond.selects yX8_tick.cls yX8_tick yX8_tick ∈ lw_tbl := tb_at 567 (by decide +kernel)
theorem se_yX8_limit : Cond.selects yX8_limit.cls yX8_limit yX8_limit ∈ lw_tbl := tb_at 572 (by decide +kernel)
theorem se_yX8_event : Cond.selects yX8_event.cls yX8_event yX8_event ∈ lw_tbl := tb_at 580 (by decide +kernel)
theorem se_yX8_used : Cond.selects yX8_used.cls yX8_used yX8_used ∈ lw_tbl := tb_at 617 (by decide +kernel)
theorem se_yX8_held : Cond.selects yX8_held.cls yX8_held yX8_held ∈ lw_tbl := tb_at 630 (by decide +kernel)
theorem se_yX8_room : Cond.selects yX8_room.cls yX8_room yX8_room ∈ lw_tbl := tb_at 642 (by decide +kernel)
theorem se_yX8_request : Cond.selects yX8_request.cls yX8_request yX8_request ∈ lw_tbl := tb_at 652 (by decide +kernel)
theorem se_yX8_settle : Cond.selects yX8_settle.cls yX8_settle yX8_settle ∈ lw_tbl := tb_at 660 (by decide +kernel)
theorem se_yX8_drop : Cond.selects yX8_drop.cls yX8_drop yX8_drop ∈ lw_tbl := tb_at 664 (by decide +kernel)
theorem se_yX8_hold : Cond.selects yX8_hold.cls yX8_hold yX8_hold ∈ lw_tbl := tb_at 668 (by decide +kernel)
theorem se_yX8_mode : Cond.selects yX8_mode.cls yX8_mode yX8_mode ∈ lw_tbl := tb_at 775 (by decide +kernel)
theorem se_yX8_tier : Cond.selects yX8_tier.cls yX8_tier yX8_tier ∈ lw_tbl := tb_at 783 (by decide +kernel)
theorem se_yX8_tiers : Cond.selects yX8_tiers.cls yX8_tiers yX8_tiers ∈ lw_tbl := tb_at 788 (by decide +kernel)
theorem se_yX8_cost : Cond.selects yX8_cost.cls yX8_cost yX8_cost ∈ lw_tbl := tb_at 792 (by decide +kernel)
theorem se_yX8_terms : Cond.selects yX8_terms.cls yX8_terms yX8_terms ∈ lw_tbl := tb_at 796 (by decide +kernel)
theorem se_yX8_credit : Cond.selects yX8_credit.cls yX8_credit yX8_credit ∈ lw_tbl := tb_at 801 (by decide +kernel)
theorem se_yX8_left : Cond.selects yX8_left.cls yX8_left yX8_left ∈ lw_tbl := tb_at 809 (by decide +kernel)
theorem se_yX8_close : Cond.selects yX8_close.cls yX8_close yX8_close ∈ lw_tbl := tb_at 813 (by decide +kernel)
theorem se_yX8_line_ : Cond.selects yX8_line_.cls yX8_line_ yX8_line_ ∈ lw_tbl := tb_at 835 (by decide +kernel)
theorem se_yX8_invoice : Cond.selects yX8_invoice.cls yX8_invoice yX8_invoice ∈ lw_tbl := tb_at 839 (by decide +kernel)
theorem se_yX8_count : Cond.selects yX8_count.cls yX8_count yX8_count ∈ lw_tbl := tb_at 843 (by decide +kernel)
theorem se_yX8_closed : Cond.selects yX8_closed.cls yX8_closed yX8_closed ∈ lw_tbl := tb_at 847 (by decide +kernel)
theorem se_yX7_tenantAt : Cond.selects yX7_tenantAt.cls yX7_tenantAt yX7_tenantAt ∈ lw_tbl := pv_at (q := (yX7_tenantAt, 10)) 0 (by decide +kernel)
theorem se_yX7_accountAt : Cond.selects yX7_accountAt.cls yX7_accountAt yX7_accountAt ∈ lw_tbl := pv_at (q := (yX7_accountAt, 10)) 1 (by decide +kernel)
theorem se_yX7_endOldHolds : Cond.selects yX7_endOldHolds.cls yX7_endOldHolds yX7_endOldHolds ∈ lw_tbl := pv_at (q := (yX7_endOldHolds, 10)) 2 (by decide +kernel)
theorem se_yX7_openHoldAt : Cond.selects yX7_openHoldAt.cls yX7_openHoldAt yX7_openHoldAt ∈ lw_tbl := pv_at (q := (yX7_openHoldAt, 10)) 3 (by decide +kernel)
theorem se_yX7_holdAt : Cond.selects yX7_holdAt.cls yX7_holdAt yX7_holdAt ∈ lw_tbl := pv_at (q := (yX7_holdAt, 10)) 4 (by decide +kernel)
theorem se_yX7_endHold : Cond.selects yX7_endHold.cls yX7_endHold yX7_endHold ∈ lw_tbl := pv_at (q := (yX7_endHold, 10)) 5 (by decide +kernel)
theorem se_yX7_countUnits : Cond.selects yX7_countUnits.cls yX7_countUnits yX7_countUnits ∈ lw_tbl := pv_at (q := (yX7_countUnits, 10)) 6 (by decide +kernel)
theorem se_yX7_quantityOf : Cond.selects yX7_quantityOf.cls yX7_quantityOf yX7_quantityOf ∈ lw_tbl := pv_at (q := (yX7_quantityOf, 10)) 7 (by decide +kernel)
theorem se_yX5_costAtLastTier : Cond.selects yX5_costAtLastTier.cls yX5_costAtLastTier yX5_costAtLastTier ∈ lw_tbl := pv_at (q := (yX5_costAtLastTier, 6)) 8 (by decide +kernel)
theorem se_yX5_costByTiers : Cond.selects yX5_costByTiers.cls yX5_costByTiers yX5_costByTiers ∈ lw_tbl := pv_at (q := (yX5_costByTiers, 6)) 9 (by decide +kernel)
theorem se_yX5_pricedParts : Cond.selects yX5_pricedParts.cls yX5_pricedParts yX5_pricedParts ∈ lw_tbl := pv_at (q := (yX5_pricedParts, 6)) 10 (by decide +kernel)
theorem se_yX7_pricesAt : Cond.selects yX7_pricesAt.cls yX7_pricesAt yX7_pricesAt ∈ lw_tbl := pv_at (q := (yX7_pricesAt, 10)) 11 (by decide +kernel)
theorem se_yX5_wouldRise : Cond.selects yX5_wouldRise.cls yX5_wouldRise yX5_wouldRise ∈ lw_tbl := pv_at (q := (yX5_wouldRise, 6)) 12 (by decide +kernel)
theorem se_yX1_countLasting : Cond.selects yX1_countLasting.cls yX1_countLasting yX1_countLasting ∈ lw_tbl := pv_at (q := (yX1_countLasting, 3)) 13 (by decide +kernel)
theorem se_yX7_billUsage : Cond.selects yX7_billUsage.cls yX7_billUsage yX7_billUsage ∈ lw_tbl := pv_at (q := (yX7_billUsage, 10)) 14 (by decide +kernel)
theorem se_yX1_nextToUse : Cond.selects yX1_nextToUse.cls yX1_nextToUse yX1_nextToUse ∈ lw_tbl := pv_at (q := (yX1_nextToUse, 3)) 15 (by decide +kernel)
theorem se_yX7_invoiceAt : Cond.selects yX7_invoiceAt.cls yX7_invoiceAt yX7_invoiceAt ∈ lw_tbl := pv_at (q := (yX7_invoiceAt, 10)) 16 (by decide +kernel)
theorem se_yX8_isAccount : Cond.selects yX8_isAccount.cls yX8_isAccount yX8_isAccount ∈ lw_tbl := pv_at (q := (yX8_isAccount, 32)) 17 (by decide +kernel)
theorem se_yX8_come : Cond.selects yX8_come.cls yX8_come yX8_come ∈ lw_tbl := pv_at (q := (yX8_come, 32)) 18 (by decide +kernel)
theorem se_yX8_forget : Cond.selects yX8_forget.cls yX8_forget yX8_forget ∈ lw_tbl := pv_at (q := (yX8_forget, 32)) 19 (by decide +kernel)
theorem se_yX8_adjust : Cond.selects yX8_adjust.cls yX8_adjust yX8_adjust ∈ lw_tbl := pv_at (q := (yX8_adjust, 32)) 20 (by decide +kernel)
theorem se_yX8_invoiceOf : Cond.selects yX8_invoiceOf.cls yX8_invoiceOf yX8_invoiceOf ∈ lw_tbl := pv_at (q := (yX8_invoiceOf, 32)) 21 (by decide +kernel)
theorem se_yX8_quantity : Cond.selects yX8_quantity.cls yX8_quantity yX8_quantity ∈ lw_tbl := pv_at (q := (yX8_quantity, 32)) 22 (by decide +kernel)
theorem se_yX8_costOf : Cond.selects yX8_costOf.cls yX8_costOf yX8_costOf ∈ lw_tbl := pv_at (q := (yX8_costOf, 32)) 23 (by decide +kernel)
theorem se_yX8_usedOf : Cond.selects yX8_usedOf.cls yX8_usedOf yX8_usedOf ∈ lw_tbl := pv_at (q := (yX8_usedOf, 32)) 24 (by decide +kernel)
theorem se_yX8_lies : Cond.selects yX8_lies.cls yX8_lies yX8_lies ∈ lw_tbl := pv_at (q := (yX8_lies, 32)) 25 (by decide +kernel)
theorem se_yX8_heldOf : Cond.selects yX8_heldOf.cls yX8_heldOf yX8_heldOf ∈ lw_tbl := pv_at (q := (yX8_heldOf, 32)) 26 (by decide +kernel)
theorem se_yX8_isOpen : Cond.selects yX8_isOpen.cls yX8_isOpen yX8_isOpen ∈ lw_tbl := pv_at (q := (yX8_isOpen, 32)) 27 (by decide +kernel)
theorem se_yX8_roomOf : Cond.selects yX8_roomOf.cls yX8_roomOf yX8_roomOf ∈ lw_tbl := pv_at (q := (yX8_roomOf, 32)) 28 (by decide +kernel)
theorem se_yX8_open : Cond.selects yX8_open.cls yX8_open yX8_open ∈ lw_tbl := pv_at (q := (yX8_open, 32)) 29 (by decide +kernel)
theorem se_yX8_leftOf : Cond.selects yX8_leftOf.cls yX8_leftOf yX8_leftOf ∈ lw_tbl := pv_at (q := (yX8_leftOf, 32)) 30 (by decide +kernel)
theorem se_yX8_line : Cond.selects yX8_line.cls yX8_line yX8_line ∈ lw_tbl := pv_at (q := (yX8_line, 32)) 31 (by decide +kernel)
theorem se_yX8_useCredits : Cond.selects yX8_useCredits.cls yX8_useCredits yX8_useCredits ∈ lw_tbl := pv_at (q := (yX8_useCredits, 32)) 32 (by decide +kernel)
theorem cs_L_9 : qcI RL 9 yX7_init cX7_init 2 0 := ⟨⟨tb_at 14 (by decide +kernel), im_yX7_init, wi_X7, cw_yX7_init⟩, ⟨by decide, by decide, by decide +kernel⟩, rfl⟩
theorem ml_X7_3 : Cond.methodLink RX7 3 objectInit ∈ lw_tbl := tb_at 17 (by decide +kernel)
theorem cs_X7_35 : qcN RX7 35 yX4_init cX4_init 1 0 := ⟨⟨fun s z => z.1, im_yX4_init, wi_X4, cw_yX4_init⟩, ⟨by decide, by decide, by decide +kernel⟩, rfl⟩
theorem ml_X4_3 : Cond.methodLink RX4 3 objectInit ∈ lw_tbl := tb_at 33 (by decide +kernel)
theorem cs_X7_40 : qcI RX7 40 yX6_init cX6_init 3 1 := ⟨⟨tb_at 51 (by decide +kernel), im_yX6_init, wi_X6, cw_yX6_init⟩, ⟨by decide, by decide, by decide +kernel⟩, rfl⟩
theorem ml_X6_3 : Cond.methodLink RX6 3 objectInit ∈ lw_tbl := tb_at 54 (by decide +kernel)
theorem cs_X6_29 : qcN RX6 29 yX1_init cX1_init 1 0 := ⟨⟨fun s z => z.2, im_yX1_init, wi_X1, cw_yX1_init⟩, ⟨by decide, by decide, by decide +kernel⟩, rfl⟩
theorem ml_X1_3 : Cond.methodLink RX1 3 objectInit ∈ lw_tbl := tb_at 62 (by decide +kernel)
theorem cs_X6_38 : qcI RX6 38 yX5_init cX5_init 1 0 := ⟨⟨tb_at 76 (by decide +kernel), im_yX5_init, wi_X5, cw_yX5_init⟩, ⟨by decide, by decide, by decide +kernel⟩, rfl⟩
theorem ml_X5_3 : Cond.methodLink RX5 3 objectInit ∈ lw_tbl := tb_at 79 (by decide +kernel)
theorem cs_L_13 : qcV RL 13 yX7_account cX7_account 5 ((some .int)) 2 := ⟨⟨tb_at 171 (by decide +kernel), im_yX7_account, se_yX7_account, wi_X7, cw_yX7_account⟩, ⟨by decide, by decide, by decide +kernel⟩⟩
theorem cs_X7_43 : qcV RX7 43 yX7_tenantAt cX7_tenantAt 2 ((some (.object "QuotaMeter$Tenant"))) 1 := ⟨⟨tb_at 175 (by decide +kernel), im_yX7_tenantAt, se_yX7_tenantAt, wi_X7, cw_yX7_tenantAt⟩, ⟨by decide, by decide, by decide +kernel⟩⟩
theorem cs_X7_47 : qcV RX7 47 yX7_accountAt cX7_accountAt 2 ((some (.object "QuotaMeter$Account"))) 1 := ⟨⟨tb_at 179 (by decide +kernel), im_yX7_accountAt, se_yX7_accountAt, wi_X7, cw_yX7_accountAt⟩, ⟨by decide, by decide, by decide +kernel⟩⟩
theorem cs_X7_62 : qcI RX7 62 yX0_init cX0_init 5 3 := ⟨⟨tb_at 184 (by decide +kernel), im_yX0_init, wi_X0, cw_yX0_init⟩, ⟨by decide, by decide, by decide +kernel⟩, rfl⟩
theorem ml_X0_3 : Cond.methodLink RX0 3 objectInit ∈ lw_tbl := tb_at 187 (by decide +kernel)
theorem cs_L_18 : qcV RL 18 yX7_tick cX7_tick 2 ((some .int)) 1 := ⟨⟨tb_at 215 (by decide +kernel), im_yX7_tick, se_yX7_tick, wi_X7, cw_yX7_tick⟩, ⟨by decide, by decide, by decide +kernel⟩⟩
theorem cs_X7_69 : qcV RX7 69 yX4_forgetOld cX4_forgetOld 4 none 1 := ⟨⟨tb_at 220 (by decide +kernel), im_yX4_forgetOld, se_yX4_forgetOld, wi_X4, cw_yX4_forgetOld⟩, ⟨by decide, by decide, by decide +kernel⟩⟩
theorem cs_X7_72 : qcV RX7 72 yX7_endOldHolds cX7_endOldHolds 3 none 0 := ⟨⟨tb_at 224 (by decide +kernel), im_yX7_endOldHolds, se_yX7_endOldHolds, wi_X7, cw_yX7_endOldHolds⟩, ⟨by decide, by decide, by decide +kernel⟩⟩
theorem cs_X7_116 : qcV RX7 116 yX7_openHoldAt cX7_openHoldAt 3 ((some (.object "QuotaMeter$Hold"))) 1 := ⟨⟨tb_at 228 (by decide +kernel), im_yX7_openHoldAt, se_yX7_openHoldAt, wi_X7, cw_yX7_openHoldAt⟩, ⟨by decide, by decide, by decide +kernel⟩⟩
theorem cs_X7_233 : qcV RX7 233 yX7_holdAt cX7_holdAt 2 ((some (.object "QuotaMeter$Hold"))) 1 := ⟨⟨tb_at 232 (by decide +kernel), im_yX7_holdAt, se_yX7_holdAt, wi_X7, cw_yX7_holdAt⟩, ⟨by decide, by decide, by decide +kernel⟩⟩
theorem cs_X7_135 : qcV RX7 135 yX7_endHold cX7_endHold 2 none 1 := ⟨⟨tb_at 236 (by decide +kernel), im_yX7_endHold, se_yX7_endHold, wi_X7, cw_yX7_endHold⟩, ⟨by decide, by decide, by decide +kernel⟩⟩
theorem cs_X7_112 : qcV RX7 112 yX0_addHeld cX0_addHeld 4 none 2 := ⟨⟨tb_at 240 (by decide +kernel), im_yX0_addHeld, se_yX0_addHeld, wi_X0, cw_yX0_addHeld⟩, ⟨by decide, by decide, by decide +kernel⟩⟩
theorem cs_L_25 : qcV RL 25 yX7_event cX7_event 8 ((some .int)) 5 := ⟨⟨tb_at 244 (by decide +kernel), im_yX7_event, se_yX7_event, wi_X7, cw_yX7_event⟩, ⟨by decide, by decide, by decide +kernel⟩⟩
theorem cs_X7_75 : qcS RX7 75 yX7_isResource cX7_isResource 1 ((some .boolean)) 1 := ⟨⟨tb_at 248 (by decide +kernel), sm_yX7_isResource, wi_X7, cw_yX7_isResource⟩, ⟨by decide, by decide, by decide +kernel⟩⟩
theorem cs_X7_79 : qcS RX7 79 yX7_isUnits cX7_isUnits 1 ((some .boolean)) 1 := ⟨⟨tb_at 251 (by decide +kernel), sm_yX7_isUnits, wi_X7, cw_yX7_isUnits⟩, ⟨by decide, by decide, by decide +kernel⟩⟩
theorem cs_X7_82 : qcV RX7 82 yX4_knows cX4_knows 5 ((some .boolean)) 2 := ⟨⟨tb_at 255 (by decide +kernel), im_yX4_knows, se_yX4_knows, wi_X4, cw_yX4_knows⟩, ⟨by decide, by decide, by decide +kernel⟩⟩
theorem cs_X7_86 : qcV RX7 86 yX4_learn cX4_learn 5 ((some .boolean)) 3 := ⟨⟨tb_at 259 (by decide +kernel), im_yX4_learn, se_yX4_learn, wi_X4, cw_yX4_learn⟩, ⟨by decide, by decide, by decide +kernel⟩⟩
theorem cs_X7_90 : qcV RX7 90 yX7_countUnits cX7_countUnits 6 ((some .int)) 4 := ⟨⟨tb_at 263 (by decide +kernel), im_yX7_countUnits, se_yX7_countUnits, wi_X7, cw_yX7_countUnits⟩, ⟨by decide, by decide, by decide +kernel⟩⟩
theorem cs_X7_285 : qcV RX7 285 yX7_quantityOf cX7_quantityOf 8 ((some .long)) 3 := ⟨⟨tb_at 267 (by decide +kernel), im_yX7_quantityOf, se_yX7_quantityOf, wi_X7, cw_yX7_quantityOf⟩, ⟨by decide, by decide, by decide +kernel⟩⟩
theorem cs_X7_289 : qcV RX7 289 yX6_adjust cX6_adjust 6 none 3 := ⟨⟨tb_at 271 (by decide +kernel), im_yX6_adjust, se_yX6_adjust, wi_X6, cw_yX6_adjust⟩, ⟨by decide, by decide, by decide +kernel⟩⟩
theorem cs_X6_39 : qcV RX6 39 yX5_costOf cX5_costOf 3 ((some .long)) 1 := ⟨⟨tb_at 275 (by decide +kernel), im_yX5_costOf, se_yX5_costOf, wi_X5, cw_yX5_costOf⟩, ⟨by decide, by decide, by decide +kernel⟩⟩
theorem cs_X5_42 : qcV RX5 42 yX5_costAtLastTier cX5_costAtLastTier 4 ((some .long)) 1 := ⟨⟨tb_at 279 (by decide +kernel), im_yX5_costAtLastTier, se_yX5_costAtLastTier, wi_X5, cw_yX5_costAtLastTier⟩, ⟨by decide, by decide, by decide +kernel⟩⟩
theorem cs_X5_46 : qcV RX5 46 yX5_costByTiers cX5_costByTiers 10 ((some .long)) 1 := ⟨⟨tb_at 283 (by decide +kernel), im_yX5_costByTiers, se_yX5_costByTiers, wi_X5, cw_yX5_costByTiers⟩, ⟨by decide, by decide, by decide +kernel⟩⟩
theorem cs_X5_49 : qcS RX5 49 yJ9_min_f86c9 cJ9_min_f86c9 4 ((some .long)) 2 := ⟨⟨tb_at 287 (by decide +kernel), sm_yJ9_min_f86c9, wi_J9, cw_yJ9_min_f86c9⟩, ⟨by decide, by decide, by decide +kernel⟩⟩
theorem cs_X5_53 : qcV RX5 53 yX5_pricedParts cX5_pricedParts 3 ((some .long)) 1 := ⟨⟨tb_at 290 (by decide +kernel), im_yX5_pricedParts, se_yX5_pricedParts, wi_X5, cw_yX5_pricedParts⟩, ⟨by decide, by decide, by decide +kernel⟩⟩
theorem cs_X7_293 : qcV RX7 293 yX0_addUsed cX0_addUsed 5 none 3 := ⟨⟨tb_at 294 (by decide +kernel), im_yX0_addUsed, se_yX0_addUsed, wi_X0, cw_yX0_addUsed⟩, ⟨by decide, by decide, by decide +kernel⟩⟩
theorem cs_L_30 : qcV RL 30 yX7_limit cX7_limit 5 ((some .int)) 3 := ⟨⟨tb_at 298 (by decide +kernel), im_yX7_limit, se_yX7_limit, wi_X7, cw_yX7_limit⟩, ⟨by decide, by decide, by decide +kernel⟩⟩
theorem cs_L_35 : qcV RL 35 yX7_request cX7_request 5 ((some .int)) 3 := ⟨⟨tb_at 303 (by decide +kernel), im_yX7_request, se_yX7_request, wi_X7, cw_yX7_request⟩, ⟨by decide, by decide, by decide +kernel⟩⟩
theorem cs_X7_105 : qcV RX7 105 yX0_freeUnits cX0_freeUnits 6 ((some .int)) 2 := ⟨⟨tb_at 307 (by decide +kernel), im_yX0_freeUnits, se_yX0_freeUnits, wi_X0, cw_yX0_freeUnits⟩, ⟨by decide, by decide, by decide +kernel⟩⟩
theorem cs_X0_37 : qcS RX0 37 yJ9_min_f86c9 cJ9_min_f86c9 4 ((some .long)) 2 := ⟨⟨tb_at 312 (by decide +kernel), sm_yJ9_min_f86c9, wi_J9, cw_yJ9_min_f86c9⟩, ⟨by decide, by decide, by decide +kernel⟩⟩
theorem cs_X0_43 : qcS RX0 43 yJ9_max_f86c9 cJ9_max_f86c9 4 ((some .long)) 2 := ⟨⟨tb_at 313 (by decide +kernel), sm_yJ9_max_f86c9, wi_J9, cw_yJ9_max_f86c9⟩, ⟨by decide, by decide, by decide +kernel⟩⟩
theorem cs_X7_109 : qcI RX7 109 yX2_init cX2_init 5 4 := ⟨⟨tb_at 317 (by decide +kernel), im_yX2_init, wi_X2, cw_yX2_init⟩, ⟨by decide, by decide, by decide +kernel⟩, rfl⟩
theorem ml_X2_1 : Cond.methodLink RX2 1 objectInit ∈ lw_tbl := tb_at 320 (by decide +kernel)
theorem cs_L_39 : qcV RL 39 yX7_settle cX7_settle 7 ((some .int)) 3 := ⟨⟨tb_at 342 (by decide +kernel), im_yX7_settle, se_yX7_settle, wi_X7, cw_yX7_settle⟩, ⟨by decide, by decide, by decide +kernel⟩⟩
theorem cs_X7_131 : qcV RX7 131 yX7_event cX7_event 8 ((some .int)) 5 := ⟨⟨tb_at 346 (by decide +kernel), im_yX7_event, se_yX7_event, wi_X7, cw_yX7_event⟩, ⟨by decide, by decide, by decide +kernel⟩⟩
theorem cs_L_44 : qcV RL 44 yX7_drop cX7_drop 3 ((some .int)) 1 := ⟨⟨tb_at 347 (by decide +kernel), im_yX7_drop, se_yX7_drop, wi_X7, cw_yX7_drop⟩, ⟨by decide, by decide, by decide +kernel⟩⟩
theorem cs_L_48 : qcV RL 48 yX7_mode cX7_mode 6 ((some .int)) 4 := ⟨⟨tb_at 351 (by decide +kernel), im_yX7_mode, se_yX7_mode, wi_X7, cw_yX7_mode⟩, ⟨by decide, by decide, by decide +kernel⟩⟩
theorem cs_X7_139 : qcV RX7 139 yX7_pricesAt cX7_pricesAt 4 ((some (.object "QuotaMeter$Prices"))) 2 := ⟨⟨tb_at 355 (by decide +kernel), im_yX7_pricesAt, se_yX7_pricesAt, wi_X7, cw_yX7_pricesAt⟩, ⟨by decide, by decide, by decide +kernel⟩⟩
theorem cs_L_53 : qcV RL 53 yX7_tier cX7_tier 9 ((some .int)) 6 := ⟨⟨tb_at 360 (by decide +kernel), im_yX7_tier, se_yX7_tier, wi_X7, cw_yX7_tier⟩, ⟨by decide, by decide, by decide +kernel⟩⟩
theorem cs_X7_155 : qcV RX7 155 yX5_putTier cX5_putTier 7 ((some .boolean)) 4 := ⟨⟨tb_at 365 (by decide +kernel), im_yX5_putTier, se_yX5_putTier, wi_X5, cw_yX5_putTier⟩, ⟨by decide, by decide, by decide +kernel⟩⟩
theorem cs_X5_32 : qcS RX5 32 yJ9_max_7cf53 cJ9_max_7cf53 2 ((some .int)) 2 := ⟨⟨tb_at 369 (by decide +kernel), sm_yJ9_max_7cf53, wi_J9, cw_yJ9_max_7cf53⟩, ⟨by decide, by decide, by decide +kernel⟩⟩
theorem cs_X5_38 : qcV RX5 38 yX5_wouldRise cX5_wouldRise 10 ((some .boolean)) 3 := ⟨⟨tb_at 372 (by decide +kernel), im_yX5_wouldRise, se_yX5_wouldRise, wi_X5, cw_yX5_wouldRise⟩, ⟨by decide, by decide, by decide +kernel⟩⟩
theorem cs_L_58 : qcV RL 58 yX7_tiers cX7_tiers 5 ((some .int)) 3 := ⟨⟨tb_at 376 (by decide +kernel), im_yX7_tiers, se_yX7_tiers, wi_X7, cw_yX7_tiers⟩, ⟨by decide, by decide, by decide +kernel⟩⟩
theorem cs_X7_162 : qcS RX7 162 yJ9_min_7cf53 cJ9_min_7cf53 2 ((some .int)) 2 := ⟨⟨tb_at 380 (by decide +kernel), sm_yJ9_min_7cf53, wi_J9, cw_yJ9_min_7cf53⟩, ⟨by decide, by decide, by decide +kernel⟩⟩
theorem cs_L_62 : qcV RL 62 yX7_cost cX7_cost 6 ((some .long)) 3 := ⟨⟨tb_at 383 (by decide +kernel), im_yX7_cost, se_yX7_cost, wi_X7, cw_yX7_cost⟩, ⟨by decide, by decide, by decide +kernel⟩⟩
theorem cs_X7_169 : qcV RX7 169 yX5_costOf cX5_costOf 3 ((some .long)) 1 := ⟨⟨tb_at 388 (by decide +kernel), im_yX5_costOf, se_yX5_costOf, wi_X5, cw_yX5_costOf⟩, ⟨by decide, by decide, by decide +kernel⟩⟩
theorem cs_L_67 : qcV RL 67 yX7_terms cX7_terms 7 ((some .int)) 4 := ⟨⟨tb_at 389 (by decide +kernel), im_yX7_terms, se_yX7_terms, wi_X7, cw_yX7_terms⟩, ⟨by decide, by decide, by decide +kernel⟩⟩
theorem cs_X7_173 : qcS RX7 173 yX7_isRate cX7_isRate 1 ((some .boolean)) 1 := ⟨⟨tb_at 393 (by decide +kernel), sm_yX7_isRate, wi_X7, cw_yX7_isRate⟩, ⟨by decide, by decide, by decide +kernel⟩⟩
theorem cs_L_72 : qcV RL 72 yX7_credit cX7_credit 6 ((some .int)) 3 := ⟨⟨tb_at 397 (by decide +kernel), im_yX7_credit, se_yX7_credit, wi_X7, cw_yX7_credit⟩, ⟨by decide, by decide, by decide +kernel⟩⟩
theorem cs_X7_188 : qcS RX7 188 yX7_isPeriod cX7_isPeriod 1 ((some .boolean)) 1 := ⟨⟨tb_at 401 (by decide +kernel), sm_yX7_isPeriod, wi_X7, cw_yX7_isPeriod⟩, ⟨by decide, by decide, by decide +kernel⟩⟩
theorem cs_X7_198 : qcV RX7 198 yX1_give cX1_give 4 ((some .int)) 2 := ⟨⟨tb_at 404 (by decide +kernel), im_yX1_give, se_yX1_give, wi_X1, cw_yX1_give⟩, ⟨by decide, by decide, by decide +kernel⟩⟩
theorem cs_X1_23 : qcV RX1 23 yX1_countLasting cX1_countLasting 3 ((some .int)) 0 := ⟨⟨tb_at 408 (by decide +kernel), im_yX1_countLasting, se_yX1_countLasting, wi_X1, cw_yX1_countLasting⟩, ⟨by decide, by decide, by decide +kernel⟩⟩
theorem cs_L_77 : qcV RL 77 yX7_close cX7_close 4 ((some .int)) 1 := ⟨⟨tb_at 412 (by decide +kernel), im_yX7_close, se_yX7_close, wi_X7, cw_yX7_close⟩, ⟨by decide, by decide, by decide +kernel⟩⟩
theorem cs_X7_207 : qcI RX7 207 yX3_init cX3_init 3 2 := ⟨⟨tb_at 417 (by decide +kernel), im_yX3_init, wi_X3, cw_yX3_init⟩, ⟨by decide, by decide, by decide +kernel⟩, rfl⟩
theorem ml_X3_3 : Cond.methodLink RX3 3 objectInit ∈ lw_tbl := tb_at 420 (by decide +kernel)
theorem cs_X7_209 : qcV RX7 209 yX7_billUsage cX7_billUsage 6 none 2 := ⟨⟨tb_at 456 (by decide +kernel), im_yX7_billUsage, se_yX7_billUsage, wi_X7, cw_yX7_billUsage⟩, ⟨by decide, by decide, by decide +kernel⟩⟩
theorem cs_X7_300 : qcV RX7 300 yX3_add cX3_add 7 none 4 := ⟨⟨tb_at 460 (by decide +kernel), im_yX3_add, se_yX3_add, wi_X3, cw_yX3_add⟩, ⟨by decide, by decide, by decide +kernel⟩⟩
theorem cs_X7_213 : qcV RX7 213 yX6_billAdjustments cX6_billAdjustments 3 none 1 := ⟨⟨tb_at 464 (by decide +kernel), im_yX6_billAdjustments, se_yX6_billAdjustments, wi_X6, cw_yX6_billAdjustments⟩, ⟨by decide, by decide, by decide +kernel⟩⟩
theorem cs_X6_43 : qcV RX6 43 yX3_add cX3_add 7 none 4 := ⟨⟨tb_at 468 (by decide +kernel), im_yX3_add, se_yX3_add, wi_X3, cw_yX3_add⟩, ⟨by decide, by decide, by decide +kernel⟩⟩
theorem cs_X7_217 : qcV RX7 217 yX6_billTerms cX6_billTerms 2 none 1 := ⟨⟨tb_at 469 (by decide +kernel), im_yX6_billTerms, se_yX6_billTerms, wi_X6, cw_yX6_billTerms⟩, ⟨by decide, by decide, by decide +kernel⟩⟩
theorem cs_X6_52 : qcV RX6 52 yX3_partOfSum cX3_partOfSum 9 ((some .long)) 1 := ⟨⟨tb_at 473 (by decide +kernel), im_yX3_partOfSum, se_yX3_partOfSum, wi_X3, cw_yX3_partOfSum⟩, ⟨by decide, by decide, by decide +kernel⟩⟩
theorem cs_X3_45 : qcS RX3 45 yJ9_floorMod_f86c9 cJ9_floorMod_f86c9 6 ((some .long)) 2 := ⟨⟨tb_at 478 (by decide +kernel), sm_yJ9_floorMod_f86c9, wi_J9, cw_yJ9_floorMod_f86c9⟩, ⟨by decide, by decide, by decide +kernel⟩⟩
theorem cs_X3_51 : qcS RX3 51 yJ9_floorDiv_f86c9 cJ9_floorDiv_f86c9 6 ((some .long)) 2 := ⟨⟨tb_at 481 (by decide +kernel), sm_yJ9_floorDiv_f86c9, wi_J9, cw_yJ9_floorDiv_f86c9⟩, ⟨by decide, by decide, by decide +kernel⟩⟩
theorem cs_X6_56 : qcV RX6 56 yX3_addSome cX3_addSome 4 none 2 := ⟨⟨tb_at 485 (by decide +kernel), im_yX3_addSome, se_yX3_addSome, wi_X3, cw_yX3_addSome⟩, ⟨by decide, by decide, by decide +kernel⟩⟩
theorem cs_X3_39 : qcV RX3 39 yX3_add cX3_add 7 none 4 := ⟨⟨tb_at 489 (by decide +kernel), im_yX3_add, se_yX3_add, wi_X3, cw_yX3_add⟩, ⟨by decide, by decide, by decide +kernel⟩⟩
theorem cs_X6_67 : qcS RX6 67 yJ9_max_f86c9 cJ9_max_f86c9 4 ((some .long)) 2 := ⟨⟨tb_at 490 (by decide +kernel), sm_yJ9_max_f86c9, wi_J9, cw_yJ9_max_f86c9⟩, ⟨by decide, by decide, by decide +kernel⟩⟩
theorem cs_X7_220 : qcV RX7 220 yX1_payFor cX1_payFor 6 none 1 := ⟨⟨tb_at 491 (by decide +kernel), im_yX1_payFor, se_yX1_payFor, wi_X1, cw_yX1_payFor⟩, ⟨by decide, by decide, by decide +kernel⟩⟩
theorem cs_X1_33 : qcV RX1 33 yX1_nextToUse cX1_nextToUse 3 ((some .int)) 0 := ⟨⟨tb_at 495 (by decide +kernel), im_yX1_nextToUse, se_yX1_nextToUse, wi_X1, cw_yX1_nextToUse⟩, ⟨by decide, by decide, by decide +kernel⟩⟩
theorem cs_X1_36 : qcS RX1 36 yJ9_min_f86c9 cJ9_min_f86c9 4 ((some .long)) 2 := ⟨⟨tb_at 499 (by decide +kernel), sm_yJ9_min_f86c9, wi_J9, cw_yJ9_min_f86c9⟩, ⟨by decide, by decide, by decide +kernel⟩⟩
theorem cs_X1_42 : qcV RX1 42 yX3_addSome cX3_addSome 4 none 2 := ⟨⟨tb_at 500 (by decide +kernel), im_yX3_addSome, se_yX3_addSome, wi_X3, cw_yX3_addSome⟩, ⟨by decide, by decide, by decide +kernel⟩⟩
theorem cs_X7_223 : qcV RX7 223 yX6_endPeriod cX6_endPeriod 2 none 0 := ⟨⟨tb_at 501 (by decide +kernel), im_yX6_endPeriod, se_yX6_endPeriod, wi_X6, cw_yX6_endPeriod⟩, ⟨by decide, by decide, by decide +kernel⟩⟩
theorem cs_X6_76 : qcV RX6 76 yX5_copyFrom cX5_copyFrom 3 none 1 := ⟨⟨tb_at 505 (by decide +kernel), im_yX5_copyFrom, se_yX5_copyFrom, wi_X5, cw_yX5_copyFrom⟩, ⟨by decide, by decide, by decide +kernel⟩⟩
theorem cs_X6_83 : qcV RX6 83 yX1_endIn cX1_endIn 3 none 1 := ⟨⟨tb_at 509 (by decide +kernel), im_yX1_endIn, se_yX1_endIn, wi_X1, cw_yX1_endIn⟩, ⟨by decide, by decide, by decide +kernel⟩⟩
theorem cs_L_81 : qcV RL 81 yX7_used cX7_used 5 ((some .long)) 3 := ⟨⟨tb_at 513 (by decide +kernel), im_yX7_used, se_yX7_used, wi_X7, cw_yX7_used⟩, ⟨by decide, by decide, by decide +kernel⟩⟩
theorem cs_L_86 : qcV RL 86 yX7_held cX7_held 4 ((some .int)) 2 := ⟨⟨tb_at 517 (by decide +kernel), im_yX7_held, se_yX7_held, wi_X7, cw_yX7_held⟩, ⟨by decide, by decide, by decide +kernel⟩⟩
theorem cs_L_90 : qcV RL 90 yX7_room cX7_room 4 ((some .int)) 2 := ⟨⟨tb_at 521 (by decide +kernel), im_yX7_room, se_yX7_room, wi_X7, cw_yX7_room⟩, ⟨by decide, by decide, by decide +kernel⟩⟩
theorem cs_L_94 : qcV RL 94 yX7_hold cX7_hold 4 ((some .int)) 2 := ⟨⟨tb_at 525 (by decide +kernel), im_yX7_hold, se_yX7_hold, wi_X7, cw_yX7_hold⟩, ⟨by decide, by decide, by decide +kernel⟩⟩
theorem cs_L_98 : qcV RL 98 yX7_line cX7_line 5 ((some .long)) 3 := ⟨⟨tb_at 529 (by decide +kernel), im_yX7_line, se_yX7_line, wi_X7, cw_yX7_line⟩, ⟨by decide, by decide, by decide +kernel⟩⟩
theorem cs_X7_243 : qcV RX7 243 yX7_invoiceAt cX7_invoiceAt 2 ((some (.object "QuotaMeter$Invoice"))) 1 := ⟨⟨tb_at 533 (by decide +kernel), im_yX7_invoiceAt, se_yX7_invoiceAt, wi_X7, cw_yX7_invoiceAt⟩, ⟨by decide, by decide, by decide +kernel⟩⟩
theorem cs_L_102 : qcV RL 102 yX7_invoice cX7_invoice 4 ((some .long)) 2 := ⟨⟨tb_at 537 (by decide +kernel), im_yX7_invoice, se_yX7_invoice, wi_X7, cw_yX7_invoice⟩, ⟨by decide, by decide, by decide +kernel⟩⟩
theorem cs_L_107 : qcV RL 107 yX7_left cX7_left 4 ((some .long)) 2 := ⟨⟨tb_at 541 (by decide +kernel), im_yX7_left, se_yX7_left, wi_X7, cw_yX7_left⟩, ⟨by decide, by decide, by decide +kernel⟩⟩
theorem cs_L_111 : qcV RL 111 yX7_count cX7_count 2 ((some .int)) 1 := ⟨⟨tb_at 545 (by decide +kernel), im_yX7_count, se_yX7_count, wi_X7, cw_yX7_count⟩, ⟨by decide, by decide, by decide +kernel⟩⟩
theorem cs_L_115 : qcV RL 115 yX7_closed cX7_closed 3 ((some .int)) 1 := ⟨⟨tb_at 549 (by decide +kernel), im_yX7_closed, se_yX7_closed, wi_X7, cw_yX7_closed⟩, ⟨by decide, by decide, by decide +kernel⟩⟩
theorem cs_L_17 : qcV RL 17 yX8_account cX8_account 4 ((some .int)) 2 := ⟨⟨tb_at 553 (by decide +kernel), im_yX8_account, se_yX8_account, wi_X8, cw_yX8_account⟩, ⟨by decide, by decide, by decide +kernel⟩⟩
theorem cs_X8_7 : qcS RX8 7 yX8_isTenant cX8_isTenant 1 ((some .boolean)) 1 := ⟨⟨tb_at 557 (by decide +kernel), sm_yX8_isTenant, wi_X8, cw_yX8_isTenant⟩, ⟨by decide, by decide, by decide +kernel⟩⟩
theorem cs_X8_11 : qcV RX8 11 yX8_isAccount cX8_isAccount 2 ((some .boolean)) 1 := ⟨⟨tb_at 560 (by decide +kernel), im_yX8_isAccount, se_yX8_isAccount, wi_X8, cw_yX8_isAccount⟩, ⟨by decide, by decide, by decide +kernel⟩⟩
theorem cs_L_22 : qcV RL 22 yX8_tick cX8_tick 2 ((some .int)) 1 := ⟨⟨tb_at 565 (by decide +kernel), im_yX8_tick, se_yX8_tick, wi_X8, cw_yX8_tick⟩, ⟨by decide, by decide, by decide +kernel⟩⟩
theorem cs_L_34 : qcV RL 34 yX8_limit cX8_limit 4 ((some .int)) 3 := ⟨⟨tb_at 570 (by decide +kernel), im_yX8_limit, se_yX8_limit, wi_X8, cw_yX8_limit⟩, ⟨by decide, by decide, by decide +kernel⟩⟩
theorem cs_X8_28 : qcS RX8 28 yX8_isResource cX8_isResource 1 ((some .boolean)) 1 := ⟨⟨tb_at 574 (by decide +kernel), sm_yX8_isResource, wi_X8, cw_yX8_isResource⟩, ⟨by decide, by decide, by decide +kernel⟩⟩
theorem cs_L_29 : qcV RL 29 yX8_event cX8_event 7 ((some .int)) 5 := ⟨⟨tb_at 578 (by decide +kernel), im_yX8_event, se_yX8_event, wi_X8, cw_yX8_event⟩, ⟨by decide, by decide, by decide +kernel⟩⟩
theorem cs_X8_64 : qcS RX8 64 yX8_areUnits cX8_areUnits 1 ((some .boolean)) 1 := ⟨⟨tb_at 582 (by decide +kernel), sm_yX8_areUnits, wi_X8, cw_yX8_areUnits⟩, ⟨by decide, by decide, by decide +kernel⟩⟩
theorem cs_X8_67 : qcV RX8 67 yX8_come cX8_come 10 ((some .int)) 5 := ⟨⟨tb_at 586 (by decide +kernel), im_yX8_come, se_yX8_come, wi_X8, cw_yX8_come⟩, ⟨by decide, by decide, by decide +kernel⟩⟩
theorem cs_X8_45 : qcV RX8 45 yX8_forget cX8_forget 3 none 0 := ⟨⟨tb_at 590 (by decide +kernel), im_yX8_forget, se_yX8_forget, wi_X8, cw_yX8_forget⟩, ⟨by decide, by decide, by decide +kernel⟩⟩
theorem cs_X8_52 : qcV RX8 52 yX8_adjust cX8_adjust 9 none 4 := ⟨⟨tb_at 594 (by decide +kernel), im_yX8_adjust, se_yX8_adjust, wi_X8, cw_yX8_adjust⟩, ⟨by decide, by decide, by decide +kernel⟩⟩
theorem cs_X8_190 : qcV RX8 190 yX8_invoiceOf cX8_invoiceOf 4 ((some .int)) 2 := ⟨⟨tb_at 598 (by decide +kernel), im_yX8_invoiceOf, se_yX8_invoiceOf, wi_X8, cw_yX8_invoiceOf⟩, ⟨by decide, by decide, by decide +kernel⟩⟩
theorem cs_X8_193 : qcV RX8 193 yX8_quantity cX8_quantity 7 ((some .long)) 3 := ⟨⟨tb_at 602 (by decide +kernel), im_yX8_quantity, se_yX8_quantity, wi_X8, cw_yX8_quantity⟩, ⟨by decide, by decide, by decide +kernel⟩⟩
theorem cs_X8_59 : qcS RX8 59 yX8_cell cX8_cell 3 ((some .int)) 3 := ⟨⟨tb_at 606 (by decide +kernel), sm_yX8_cell, wi_X8, cw_yX8_cell⟩, ⟨by decide, by decide, by decide +kernel⟩⟩
theorem cs_X8_179 : qcV RX8 179 yX8_costOf cX8_costOf 20 ((some .long)) 2 := ⟨⟨tb_at 609 (by decide +kernel), im_yX8_costOf, se_yX8_costOf, wi_X8, cw_yX8_costOf⟩, ⟨by decide, by decide, by decide +kernel⟩⟩
theorem cs_X8_109 : qcS RX8 109 yJ9_min_f86c9 cJ9_min_f86c9 4 ((some .long)) 2 := ⟨⟨tb_at 613 (by decide +kernel), sm_yJ9_min_f86c9, wi_J9, cw_yJ9_min_f86c9⟩, ⟨by decide, by decide, by decide +kernel⟩⟩
theorem cs_L_85 : qcV RL 85 yX8_used cX8_used 4 ((some .long)) 3 := ⟨⟨tb_at 615 (by decide +kernel), im_yX8_used, se_yX8_used, wi_X8, cw_yX8_used⟩, ⟨by decide, by decide, by decide +kernel⟩⟩
theorem cs_X8_71 : qcV RX8 71 yX8_usedOf cX8_usedOf 7 ((some .long)) 3 := ⟨⟨tb_at 619 (by decide +kernel), im_yX8_usedOf, se_yX8_usedOf, wi_X8, cw_yX8_usedOf⟩, ⟨by decide, by decide, by decide +kernel⟩⟩
theorem cs_X8_77 : qcV RX8 77 yX8_lies cX8_lies 4 ((some .boolean)) 2 := ⟨⟨tb_at 623 (by decide +kernel), im_yX8_lies, se_yX8_lies, wi_X8, cw_yX8_lies⟩, ⟨by decide, by decide, by decide +kernel⟩⟩
theorem cs_L_89 : qcV RL 89 yX8_held cX8_held 3 ((some .int)) 2 := ⟨⟨tb_at 628 (by decide +kernel), im_yX8_held, se_yX8_held, wi_X8, cw_yX8_held⟩, ⟨by decide, by decide, by decide +kernel⟩⟩
theorem cs_X8_94 : qcV RX8 94 yX8_heldOf cX8_heldOf 5 ((some .int)) 2 := ⟨⟨tb_at 632 (by decide +kernel), im_yX8_heldOf, se_yX8_heldOf, wi_X8, cw_yX8_heldOf⟩, ⟨by decide, by decide, by decide +kernel⟩⟩
theorem cs_X8_91 : qcV RX8 91 yX8_isOpen cX8_isOpen 2 ((some .boolean)) 1 := ⟨⟨tb_at 636 (by decide +kernel), im_yX8_isOpen, se_yX8_isOpen, wi_X8, cw_yX8_isOpen⟩, ⟨by decide, by decide, by decide +kernel⟩⟩
theorem cs_L_93 : qcV RL 93 yX8_room cX8_room 3 ((some .int)) 2 := ⟨⟨tb_at 640 (by decide +kernel), im_yX8_room, se_yX8_room, wi_X8, cw_yX8_room⟩, ⟨by decide, by decide, by decide +kernel⟩⟩
theorem cs_X8_115 : qcV RX8 115 yX8_roomOf cX8_roomOf 6 ((some .long)) 2 := ⟨⟨tb_at 644 (by decide +kernel), im_yX8_roomOf, se_yX8_roomOf, wi_X8, cw_yX8_roomOf⟩, ⟨by decide, by decide, by decide +kernel⟩⟩
theorem cs_X8_119 : qcS RX8 119 yJ9_max_f86c9 cJ9_max_f86c9 4 ((some .long)) 2 := ⟨⟨tb_at 649 (by decide +kernel), sm_yJ9_max_f86c9, wi_J9, cw_yJ9_max_f86c9⟩, ⟨by decide, by decide, by decide +kernel⟩⟩
theorem cs_L_38 : qcV RL 38 yX8_request cX8_request 4 ((some .int)) 3 := ⟨⟨tb_at 650 (by decide +kernel), im_yX8_request, se_yX8_request, wi_X8, cw_yX8_request⟩, ⟨by decide, by decide, by decide +kernel⟩⟩
theorem cs_X8_122 : qcV RX8 122 yX8_open cX8_open 3 ((some .int)) 0 := ⟨⟨tb_at 654 (by decide +kernel), im_yX8_open, se_yX8_open, wi_X8, cw_yX8_open⟩, ⟨by decide, by decide, by decide +kernel⟩⟩
theorem cs_L_43 : qcV RL 43 yX8_settle cX8_settle 6 ((some .int)) 3 := ⟨⟨tb_at 658 (by decide +kernel), im_yX8_settle, se_yX8_settle, wi_X8, cw_yX8_settle⟩, ⟨by decide, by decide, by decide +kernel⟩⟩
theorem cs_L_47 : qcV RL 47 yX8_drop cX8_drop 2 ((some .int)) 1 := ⟨⟨tb_at 662 (by decide +kernel), im_yX8_drop, se_yX8_drop, wi_X8, cw_yX8_drop⟩, ⟨by decide, by decide, by decide +kernel⟩⟩
theorem cs_L_97 : qcV RL 97 yX8_hold cX8_hold 3 ((some .int)) 2 := ⟨⟨tb_at 666 (by decide +kernel), im_yX8_hold, se_yX8_hold, wi_X8, cw_yX8_hold⟩, ⟨by decide, by decide, by decide +kernel⟩⟩
theorem cs_L_12 : qcI RL 12 yX8_init cX8_init 2 0 := ⟨⟨tb_at 671 (by decide +kernel), im_yX8_init, wi_X8, cw_yX8_init⟩, ⟨by decide, by decide, by decide +kernel⟩, rfl⟩
theorem ml_X8_126 : Cond.methodLink RX8 126 objectInit ∈ lw_tbl := tb_at 674 (by decide +kernel)
theorem cs_L_52 : qcV RL 52 yX8_mode cX8_mode 5 ((some .int)) 4 := ⟨⟨tb_at 773 (by decide +kernel), im_yX8_mode, se_yX8_mode, wi_X8, cw_yX8_mode⟩, ⟨by decide, by decide, by decide +kernel⟩⟩
theorem cs_X8_174 : qcS RX8 174 yX8_row cX8_row 2 ((some .int)) 2 := ⟨⟨tb_at 778 (by decide +kernel), sm_yX8_row, wi_X8, cw_yX8_row⟩, ⟨by decide, by decide, by decide +kernel⟩⟩
theorem cs_L_57 : qcV RL 57 yX8_tier cX8_tier 17 ((some .int)) 6 := ⟨⟨tb_at 781 (by decide +kernel), im_yX8_tier, se_yX8_tier, wi_X8, cw_yX8_tier⟩, ⟨by decide, by decide, by decide +kernel⟩⟩
theorem cs_L_61 : qcV RL 61 yX8_tiers cX8_tiers 5 ((some .int)) 3 := ⟨⟨tb_at 786 (by decide +kernel), im_yX8_tiers, se_yX8_tiers, wi_X8, cw_yX8_tiers⟩, ⟨by decide, by decide, by decide +kernel⟩⟩
theorem cs_L_66 : qcV RL 66 yX8_cost cX8_cost 5 ((some .long)) 3 := ⟨⟨tb_at 790 (by decide +kernel), im_yX8_cost, se_yX8_cost, wi_X8, cw_yX8_cost⟩, ⟨by decide, by decide, by decide +kernel⟩⟩
theorem cs_L_71 : qcV RL 71 yX8_terms cX8_terms 6 ((some .int)) 4 := ⟨⟨tb_at 794 (by decide +kernel), im_yX8_terms, se_yX8_terms, wi_X8, cw_yX8_terms⟩, ⟨by decide, by decide, by decide +kernel⟩⟩
theorem cs_L_76 : qcV RL 76 yX8_credit cX8_credit 7 ((some .int)) 3 := ⟨⟨tb_at 799 (by decide +kernel), im_yX8_credit, se_yX8_credit, wi_X8, cw_yX8_credit⟩, ⟨by decide, by decide, by decide +kernel⟩⟩
theorem cs_X8_187 : qcV RX8 187 yX8_leftOf cX8_leftOf 4 ((some .long)) 2 := ⟨⟨tb_at 803 (by decide +kernel), im_yX8_leftOf, se_yX8_leftOf, wi_X8, cw_yX8_leftOf⟩, ⟨by decide, by decide, by decide +kernel⟩⟩
theorem cs_L_110 : qcV RL 110 yX8_left cX8_left 3 ((some .long)) 2 := ⟨⟨tb_at 807 (by decide +kernel), im_yX8_left, se_yX8_left, wi_X8, cw_yX8_left⟩, ⟨by decide, by decide, by decide +kernel⟩⟩
theorem cs_L_80 : qcV RL 80 yX8_close cX8_close 10 ((some .int)) 1 := ⟨⟨tb_at 811 (by decide +kernel), im_yX8_close, se_yX8_close, wi_X8, cw_yX8_close⟩, ⟨by decide, by decide, by decide +kernel⟩⟩
theorem ml_X8_209 : Cond.methodLink RX8 209 arraycopyName ∈ lw_tbl := tb_at 815 (by decide +kernel)
theorem cs_X8_215 : qcV RX8 215 yX8_line cX8_line 8 none 4 := ⟨⟨tb_at 818 (by decide +kernel), im_yX8_line, se_yX8_line, wi_X8, cw_yX8_line⟩, ⟨by decide, by decide, by decide +kernel⟩⟩
theorem cs_X8_219 : qcS RX8 219 yX8_part cX8_part 8 ((some .long)) 2 := ⟨⟨tb_at 822 (by decide +kernel), sm_yX8_part, wi_X8, cw_yX8_part⟩, ⟨by decide, by decide, by decide +kernel⟩⟩
theorem cs_X8_198 : qcS RX8 198 yJ9_floorDiv_f86c9 cJ9_floorDiv_f86c9 6 ((some .long)) 2 := ⟨⟨tb_at 826 (by decide +kernel), sm_yJ9_floorDiv_f86c9, wi_J9, cw_yJ9_floorDiv_f86c9⟩, ⟨by decide, by decide, by decide +kernel⟩⟩
theorem cs_X8_201 : qcS RX8 201 yJ9_floorMod_f86c9 cJ9_floorMod_f86c9 6 ((some .long)) 2 := ⟨⟨tb_at 827 (by decide +kernel), sm_yJ9_floorMod_f86c9, wi_J9, cw_yJ9_floorMod_f86c9⟩, ⟨by decide, by decide, by decide +kernel⟩⟩
theorem cs_X8_223 : qcV RX8 223 yX8_useCredits cX8_useCredits 11 none 3 := ⟨⟨tb_at 829 (by decide +kernel), im_yX8_useCredits, se_yX8_useCredits, wi_X8, cw_yX8_useCredits⟩, ⟨by decide, by decide, by decide +kernel⟩⟩
theorem cs_L_101 : qcV RL 101 yX8_line_ cX8_line_ 4 ((some .long)) 3 := ⟨⟨tb_at 833 (by decide +kernel), im_yX8_line_, se_yX8_line_, wi_X8, cw_yX8_line_⟩, ⟨by decide, by decide, by decide +kernel⟩⟩
theorem cs_L_106 : qcV RL 106 yX8_invoice cX8_invoice 6 ((some .long)) 2 := ⟨⟨tb_at 837 (by decide +kernel), im_yX8_invoice, se_yX8_invoice, wi_X8, cw_yX8_invoice⟩, ⟨by decide, by decide, by decide +kernel⟩⟩
theorem cs_L_114 : qcV RL 114 yX8_count cX8_count 2 ((some .int)) 1 := ⟨⟨tb_at 841 (by decide +kernel), im_yX8_count, se_yX8_count, wi_X8, cw_yX8_count⟩, ⟨by decide, by decide, by decide +kernel⟩⟩
theorem cs_L_118 : qcV RL 118 yX8_closed cX8_closed 2 ((some .int)) 1 := ⟨⟨tb_at 845 (by decide +kernel), im_yX8_closed, se_yX8_closed, wi_X8, cw_yX8_closed⟩, ⟨by decide, by decide, by decide +kernel⟩⟩
