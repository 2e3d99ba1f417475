/-! The law's own walk -/
theorem qM.keep {y : MethodName} {cc : ByteArray} {nL : Nat} {ret : Option FieldType} {d lo mc ms : Nat} {as : List qV} {h : qH} {P : Option qV → qH → Prop} (M : qM y cc nL ret d lo mc ms as h P) : qM y cc nL ret d lo mc ms as h (fun v h' => P v h' ∧ ∀ i, i < qg_n h 0 → (qg_l h' 0 i 0).toNatClampNeg = (qg_l h 0 i 0).toNatClampNeg ∧ ∀ j, j < (qg_l h 0 i 0).toNatClampNeg → qg_i h' 0 i j = qg_i h 0 i j) := by
  intro l D sz ρ hcl p e ha hc hk s m args below hf hfit hPc hkk
  obtain ⟨n, o, h1, h2, h3, ⟨⟨v, h', ρ', q1, q2, q3⟩, q4⟩, q5⟩ := M l D sz ρ hcl p e ha hc hk s m args below hf hfit hPc hkk
  refine ⟨n, o, h1, h2, h3, ⟨⟨v, h', ρ', q1, ⟨q2, fun i hi => ?_⟩, q3⟩, q4⟩, q5⟩
  obtain ⟨-, hR, -, hsz⟩ := hPc
  obtain ⟨-, hle, hρ, hR'⟩ := q3
  obtain ⟨b0, scr, b1, b2, b3, b4, b5⟩ := hR.2.2.2.2.2.2 i hi
  obtain ⟨c0, scr', c1, c2, c3, c4, c5⟩ := hR'.2.2.2.2.2.2 i (Nat.lt_of_lt_of_le hi (hle 0))
  rw [hρ 0 i hi, q4.2 (ρ 0 i) (Nat.lt_of_lt_of_le b0 hsz) (by omega), b1] at c1
  have e1 : scr' = scr := (Option.some.inj c1).symm
  subst e1
  have e2 : (qg_l h' 0 i 0).toNatClampNeg = (qg_l h 0 i 0).toNatClampNeg := c4.symm.trans b4
  refine ⟨e2, fun j hj => ?_⟩
  have f1 := b5 j hj
  rw [c5 j (by rw [e2]; exact hj)] at f1
  injection f1 with f1
  injection f1
def LN (h : qH) : Nat := (qg_l h 0 0 0).toNatClampNeg
/-- the script is kept -/
def SK (h g : qH) : Prop := LN g = LN h ∧ ∀ j, j < LN h → qg_i g 0 0 j = qg_i h 0 0 j
theorem qM.keepI {y : MethodName} {cc : ByteArray} {nL : Nat} {ret : Option FieldType} {d lo mc ms : Nat} {as : List qV} {h : qH} {f : Int32 → qH → Prop} (M : qM y cc nL ret d lo mc ms as h (pI f)) (h0 : 0 < qg_n h 0) : qM y cc nL ret d lo mc ms as h (pI fun x g => f x g ∧ SK h g) := by
  refine M.keep.weak ?_
  rintro v h' ⟨⟨x, x1, x2⟩, q⟩
  exact ⟨x, x1, x2, q 0 h0⟩
theorem qM.keepL {y : MethodName} {cc : ByteArray} {nL : Nat} {ret : Option FieldType} {d lo mc ms : Nat} {as : List qV} {h : qH} {f : Int64 → qH → Prop} (M : qM y cc nL ret d lo mc ms as h (pL f)) (h0 : 0 < qg_n h 0) : qM y cc nL ret d lo mc ms as h (pL fun x g => f x g ∧ SK h g) := by
  refine M.keep.weak ?_
  rintro v h' ⟨⟨x, x1, x2⟩, q⟩
  exact ⟨x, x1, x2, q 0 h0⟩
theorem qM.keepV {y : MethodName} {cc : ByteArray} {nL : Nat} {ret : Option FieldType} {d lo mc ms : Nat} {as : List qV} {h : qH} {f : qH → Prop} (M : qM y cc nL ret d lo mc ms as h (pV f)) (h0 : 0 < qg_n h 0) : qM y cc nL ret d lo mc ms as h (pV fun g => f g ∧ SK h g) := by
  refine M.keep.weak ?_
  rintro v h' ⟨⟨x1, x2⟩, q⟩
  exact ⟨x1, x2, q 0 h0⟩
section LW
variable {n0 : Nat → Nat} {Post : Option qV → qH → Prop} {pc : Nat} {L : List (Nat × qV)} {st : List qV} {h : qH} {cells slots c : Nat}
theorem V_argc (n k : Nat) {i : Int} {j : Nat} {v : Int32} (d1 : decode cL_law pc = .ok (.aload_n 0, 1)) (d2 : decode cL_law (pc + 1) = .ok (.iload_n 3, 1)) (d3 : decode cL_law (pc + 1 + 1) = .ok (.iconst i, 1)) (hk : Int32.ofInt i = nI k) (d4 : decode cL_law (pc + 1 + 1 + 1) = .ok (.iadd, 1)) (d5 : decode cL_law (pc + 1 + 1 + 1 + 1) = .ok (.iaload, 1)) (hn : pc + 1 + 1 + 1 + 1 + 1 = n) (l0 : qlk L 0 = some (.inr (.inr (some (0, 0))))) (l3 : qlk L 3 = some (.inl (nI j))) (hin : j + k < LN h) (hj : LN h ≤ 4096) (hv : qg_i h 0 0 (j + k) = v) (K : Vw yL_law cL_law 4 (some .boolean) room_1 600000 7302250 n0 Post n L (.inl v :: st) h cells slots) : Vw yL_law cL_law 4 (some .boolean) room_1 600000 7302250 n0 Post pc L st h cells slots := by
  subst hv
  refine V_aload_n (pc + 1) d1 rfl l0 (V_iload_n (pc + 1 + 1) d2 rfl l3 (V_iconst (v := nI k) (pc + 1 + 1 + 1) d3 rfl hk (V_iadd (pc + 1 + 1 + 1 + 1) d4 rfl ?_)))
  rw [nI_add]
  refine V_sld n d5 hn (vp_in_nI (show j + k < LN h from hin) (by show LN h < 2 ^ 31; omega)) ?_
  rw [nI_clamp (by omega)]
  exact K
theorem V_argb (n k : Nat) {i : Int} {j : Nat} {v : Int32} (d1 : decode cL_law pc = .ok (.aload_n 0, 1)) (d2 : decode cL_law (pc + 1) = .ok (.iload_n 3, 1)) (d3 : decode cL_law (pc + 1 + 1) = .ok (.bipush i, 2)) (hk : (Int8.ofInt i).toInt32 = nI k) (d4 : decode cL_law (pc + 1 + 1 + 2) = .ok (.iadd, 1)) (d5 : decode cL_law (pc + 1 + 1 + 2 + 1) = .ok (.iaload, 1)) (hn : pc + 1 + 1 + 2 + 1 + 1 = n) (l0 : qlk L 0 = some (.inr (.inr (some (0, 0))))) (l3 : qlk L 3 = some (.inl (nI j))) (hin : j + k < LN h) (hj : LN h ≤ 4096) (hv : qg_i h 0 0 (j + k) = v) (K : Vw yL_law cL_law 4 (some .boolean) room_1 600000 7302250 n0 Post n L (.inl v :: st) h cells slots) : Vw yL_law cL_law 4 (some .boolean) room_1 600000 7302250 n0 Post pc L st h cells slots := by
  subst hv
  refine V_aload_n (pc + 1) d1 rfl l0 (V_iload_n (pc + 1 + 1) d2 rfl l3 (V_bipush (v := nI k) (pc + 1 + 1 + 2) d3 rfl hk (V_iadd (pc + 1 + 1 + 2 + 1) d4 rfl ?_)))
  rw [nI_add]
  refine V_sld n d5 hn (vp_in_nI (show j + k < LN h from hin) (by show LN h < 2 ^ 31; omega)) ?_
  rw [nI_clamp (by omega)]
  exact K
def lj (a b : Int32) : Int64 := (a.toInt64 <<< ((32 : Int32).toInt64 &&& 63)) ||| (b.toInt64 &&& 4294967295)
theorem lg_same (x : Int64) : lg_cmp x x = 0 := by
  rcases lg_c x x with q | q | q
  · omega
  · exact q.1
  · omega

theorem lc_0 (R : RC c h) (Z : FRZ h) (hc : c < 512) (h0 : 0 < qg_n h 0) (hL : LN h ≤ 4096) (hi : 8 * c + 8 ≤ LN h) (c1 : cells + 8 ≤ 600000) (c2 : slots + 418 ≤ 7302250) (K : ∀ g, RC (c + 1) g → LN g = LN h → 0 < qg_n g 0 → Vw yL_law cL_law 4 (some .boolean) room_1 600000 7302250 n0 Post 1230 [(0, .inr (.inr (some (0, 0)))), (1, .inr (.inr (some (1, 0)))), (2, .inr (.inr (some (33, 0)))), (3, .inl (nI (8 * c)))] [] g (cells + 8) (slots + 418)) : Vw yL_law cL_law 4 (some .boolean) room_1 600000 7302250 n0 Post 140 [(0, .inr (.inr (some (0, 0)))), (1, .inr (.inr (some (1, 0)))), (2, .inr (.inr (some (33, 0)))), (3, .inl (nI (8 * c)))] [] h cells slots := by
  obtain ⟨f, C7, C8⟩ := st_account R Z (qg_i h 0 0 (8 * c + 1)) (qg_i h 0 0 (8 * c + 2))
  refine V_aload_n 141 dL_law_140 rfl rfl ?_
  refine V_argc (j := 8 * c) 146 1 dL_law_141 dL_law_142 dL_law_143 (by decide) dL_law_144 dL_law_145 rfl rfl rfl (by omega) (by omega) rfl ?_
  refine V_argc (j := 8 * c) 151 2 dL_law_146 dL_law_147 dL_law_148 (by decide) dL_law_149 dL_law_150 rfl rfl rfl (by omega) (by omega) rfl ?_
  refine V_cV2i 154 (C7.keepI h0) cs_L_13 rfl rfl (by decide) dL_law_151 rfl ⟨Nat.le_of_ble_eq_true rfl, Nat.le_of_ble_eq_true rfl⟩ (Nat.le_of_ble_eq_true rfl) ⟨by show cells + 8 ≤ 600000; omega, by show slots + 418 ≤ 7302250; omega⟩ (fun x g hx hle => ?_)
  obtain ⟨hx, hs⟩ := hx
  have g0 : 0 < qg_n g 0 := Nat.lt_of_lt_of_le h0 (hle 0)
  refine V_aload_n 155 dL_law_154 rfl rfl ?_
  refine V_argc (j := 8 * c) 160 1 dL_law_155 dL_law_156 dL_law_157 (by decide) dL_law_158 dL_law_159 rfl rfl rfl (by rw [hs.1]; omega) (by rw [hs.1]; omega) (hs.2 (8 * c + 1) (by omega)) ?_
  refine V_argc (j := 8 * c) 165 2 dL_law_160 dL_law_161 dL_law_162 (by decide) dL_law_163 dL_law_164 rfl rfl rfl (by rw [hs.1]; omega) (by rw [hs.1]; omega) (hs.2 (8 * c + 2) (by omega)) ?_
  refine V_cV2i 168 ((C8 x g hx).keepI g0) cs_L_17 rfl rfl (by decide) dL_law_165 rfl ⟨Nat.le_of_ble_eq_true rfl, Nat.le_of_ble_eq_true rfl⟩ (Nat.le_of_ble_eq_true rfl) ⟨by show cells + 8 + 0 ≤ 600000; omega, by show slots + 418 + 0 ≤ 7302250; omega⟩ (fun y g2 hy hle2 => ?_)
  obtain ⟨⟨rfl, R2⟩, hs2⟩ := hy
  refine V_icmp_eq 1230 171 dL_law_168 rfl rfl (fun _ => ?_) (fun q => absurd rfl q)
  exact V_wide (by omega) (by omega) (K g2 R2 (hs2.1.trans hs.1) (Nat.lt_of_lt_of_le g0 (hle2 0)))
theorem lc_1 (R : RC c h) (Z : FRZ h) (hc : c < 512) (h0 : 0 < qg_n h 0) (hL : LN h ≤ 4096) (hi : 8 * c + 8 ≤ LN h) (c1 : cells + 8 ≤ 600000) (c2 : slots + 418 ≤ 7302250) (K : ∀ g, RC (c + 1) g → LN g = LN h → 0 < qg_n g 0 → Vw yL_law cL_law 4 (some .boolean) room_1 600000 7302250 n0 Post 1230 [(0, .inr (.inr (some (0, 0)))), (1, .inr (.inr (some (1, 0)))), (2, .inr (.inr (some (33, 0)))), (3, .inl (nI (8 * c)))] [] g (cells + 8) (slots + 418)) : Vw yL_law cL_law 4 (some .boolean) room_1 600000 7302250 n0 Post 173 [(0, .inr (.inr (some (0, 0)))), (1, .inr (.inr (some (1, 0)))), (2, .inr (.inr (some (33, 0)))), (3, .inl (nI (8 * c)))] [] h cells slots := by
  obtain ⟨f, C7, C8⟩ := st_tick R (qg_i h 0 0 (8 * c + 1))
  refine V_aload_n 174 dL_law_173 rfl rfl ?_
  refine V_argc (j := 8 * c) 179 1 dL_law_174 dL_law_175 dL_law_176 (by decide) dL_law_177 dL_law_178 rfl rfl rfl (by omega) (by omega) rfl ?_
  refine V_cV1i 182 (C7.keepI h0) cs_L_18 rfl rfl (by decide) dL_law_179 rfl ⟨Nat.le_of_ble_eq_true rfl, Nat.le_of_ble_eq_true rfl⟩ (Nat.le_of_ble_eq_true rfl) ⟨by show cells + 0 ≤ 600000; omega, by show slots + 0 ≤ 7302250; omega⟩ (fun x g hx hle => ?_)
  obtain ⟨hx, hs⟩ := hx
  have g0 : 0 < qg_n g 0 := Nat.lt_of_lt_of_le h0 (hle 0)
  refine V_aload_n 183 dL_law_182 rfl rfl ?_
  refine V_argc (j := 8 * c) 188 1 dL_law_183 dL_law_184 dL_law_185 (by decide) dL_law_186 dL_law_187 rfl rfl rfl (by rw [hs.1]; omega) (by rw [hs.1]; omega) (hs.2 (8 * c + 1) (by omega)) ?_
  refine V_cV1i 191 ((C8 x g hx).keepI g0) cs_L_22 rfl rfl (by decide) dL_law_188 rfl ⟨Nat.le_of_ble_eq_true rfl, Nat.le_of_ble_eq_true rfl⟩ (Nat.le_of_ble_eq_true rfl) ⟨by show cells + 0 + 0 ≤ 600000; omega, by show slots + 0 + 0 ≤ 7302250; omega⟩ (fun y g2 hy hle2 => ?_)
  obtain ⟨⟨rfl, R2⟩, hs2⟩ := hy
  refine V_icmp_eq 1230 194 dL_law_191 rfl rfl (fun _ => ?_) (fun q => absurd rfl q)
  exact V_wide (by omega) (by omega) (K g2 R2 (hs2.1.trans hs.1) (Nat.lt_of_lt_of_le g0 (hle2 0)))
theorem lc_2 (R : RC c h) (Z : FRZ h) (hc : c < 512) (h0 : 0 < qg_n h 0) (hL : LN h ≤ 4096) (hi : 8 * c + 8 ≤ LN h) (c1 : cells + 8 ≤ 600000) (c2 : slots + 418 ≤ 7302250) (K : ∀ g, RC (c + 1) g → LN g = LN h → 0 < qg_n g 0 → Vw yL_law cL_law 4 (some .boolean) room_1 600000 7302250 n0 Post 1230 [(0, .inr (.inr (some (0, 0)))), (1, .inr (.inr (some (1, 0)))), (2, .inr (.inr (some (33, 0)))), (3, .inl (nI (8 * c)))] [] g (cells + 8) (slots + 418)) : Vw yL_law cL_law 4 (some .boolean) room_1 600000 7302250 n0 Post 196 [(0, .inr (.inr (some (0, 0)))), (1, .inr (.inr (some (1, 0)))), (2, .inr (.inr (some (33, 0)))), (3, .inl (nI (8 * c)))] [] h cells slots := by
  obtain ⟨f, C7, C8⟩ := st_event R hc (lj (qg_i h 0 0 (8 * c + 1)) (qg_i h 0 0 (8 * c + 2))) (qg_i h 0 0 (8 * c + 3)) (qg_i h 0 0 (8 * c + 4)) (qg_i h 0 0 (8 * c + 5)) (qg_i h 0 0 (8 * c + 6))
  refine V_aload_n 197 dL_law_196 rfl rfl ?_
  refine V_argc (j := 8 * c) 202 1 dL_law_197 dL_law_198 dL_law_199 (by decide) dL_law_200 dL_law_201 rfl rfl rfl (by omega) (by omega) rfl ?_
  refine V_i2l 203 dL_law_202 rfl ?_
  refine V_bipush (v := 32) 205 dL_law_203 rfl (by decide) ?_
  refine V_lshl 206 dL_law_205 rfl ?_
  refine V_argc (j := 8 * c) 211 2 dL_law_206 dL_law_207 dL_law_208 (by decide) dL_law_209 dL_law_210 rfl rfl rfl (by omega) (by omega) rfl ?_
  refine V_i2l 212 dL_law_211 rfl ?_
  refine V_ldc2 (v := 4294967295) 215 dL_law_212 rfl wc_L_23 ?_
  refine V_land 216 dL_law_215 rfl ?_
  refine V_lor 217 dL_law_216 rfl ?_
  refine V_argc (j := 8 * c) 222 3 dL_law_217 dL_law_218 dL_law_219 (by decide) dL_law_220 dL_law_221 rfl rfl rfl (by omega) (by omega) rfl ?_
  refine V_argc (j := 8 * c) 227 4 dL_law_222 dL_law_223 dL_law_224 (by decide) dL_law_225 dL_law_226 rfl rfl rfl (by omega) (by omega) rfl ?_
  refine V_argc (j := 8 * c) 232 5 dL_law_227 dL_law_228 dL_law_229 (by decide) dL_law_230 dL_law_231 rfl rfl rfl (by omega) (by omega) rfl ?_
  refine V_argb (j := 8 * c) 238 6 dL_law_232 dL_law_233 dL_law_234 (by decide) dL_law_236 dL_law_237 rfl rfl rfl (by omega) (by omega) rfl ?_
  refine V_cV5i 241 (C7.keepI h0) cs_L_25 rfl rfl (by decide) dL_law_238 rfl ⟨Nat.le_of_ble_eq_true rfl, Nat.le_of_ble_eq_true rfl⟩ (Nat.le_of_ble_eq_true rfl) ⟨by show cells + 0 ≤ 600000; omega, by show slots + 0 ≤ 7302250; omega⟩ (fun x g hx hle => ?_)
  obtain ⟨hx, hs⟩ := hx
  have g0 : 0 < qg_n g 0 := Nat.lt_of_lt_of_le h0 (hle 0)
  refine V_aload_n 242 dL_law_241 rfl rfl ?_
  refine V_argc (j := 8 * c) 247 1 dL_law_242 dL_law_243 dL_law_244 (by decide) dL_law_245 dL_law_246 rfl rfl rfl (by rw [hs.1]; omega) (by rw [hs.1]; omega) (hs.2 (8 * c + 1) (by omega)) ?_
  refine V_i2l 248 dL_law_247 rfl ?_
  refine V_bipush (v := 32) 250 dL_law_248 rfl (by decide) ?_
  refine V_lshl 251 dL_law_250 rfl ?_
  refine V_argc (j := 8 * c) 256 2 dL_law_251 dL_law_252 dL_law_253 (by decide) dL_law_254 dL_law_255 rfl rfl rfl (by rw [hs.1]; omega) (by rw [hs.1]; omega) (hs.2 (8 * c + 2) (by omega)) ?_
  refine V_i2l 257 dL_law_256 rfl ?_
  refine V_ldc2 (v := 4294967295) 260 dL_law_257 rfl wc_L_23 ?_
  refine V_land 261 dL_law_260 rfl ?_
  refine V_lor 262 dL_law_261 rfl ?_
  refine V_argc (j := 8 * c) 267 3 dL_law_262 dL_law_263 dL_law_264 (by decide) dL_law_265 dL_law_266 rfl rfl rfl (by rw [hs.1]; omega) (by rw [hs.1]; omega) (hs.2 (8 * c + 3) (by omega)) ?_
  refine V_argc (j := 8 * c) 272 4 dL_law_267 dL_law_268 dL_law_269 (by decide) dL_law_270 dL_law_271 rfl rfl rfl (by rw [hs.1]; omega) (by rw [hs.1]; omega) (hs.2 (8 * c + 4) (by omega)) ?_
  refine V_argc (j := 8 * c) 277 5 dL_law_272 dL_law_273 dL_law_274 (by decide) dL_law_275 dL_law_276 rfl rfl rfl (by rw [hs.1]; omega) (by rw [hs.1]; omega) (hs.2 (8 * c + 5) (by omega)) ?_
  refine V_argb (j := 8 * c) 283 6 dL_law_277 dL_law_278 dL_law_279 (by decide) dL_law_281 dL_law_282 rfl rfl rfl (by rw [hs.1]; omega) (by rw [hs.1]; omega) (hs.2 (8 * c + 6) (by omega)) ?_
  refine V_cV5i 286 ((C8 x g hx).keepI g0) cs_L_29 rfl rfl (by decide) dL_law_283 rfl ⟨Nat.le_of_ble_eq_true rfl, Nat.le_of_ble_eq_true rfl⟩ (Nat.le_of_ble_eq_true rfl) ⟨by show cells + 0 + 0 ≤ 600000; omega, by show slots + 0 + 0 ≤ 7302250; omega⟩ (fun y g2 hy hle2 => ?_)
  obtain ⟨⟨rfl, R2⟩, hs2⟩ := hy
  refine V_icmp_eq 1230 289 dL_law_286 rfl rfl (fun _ => ?_) (fun q => absurd rfl q)
  exact V_wide (by omega) (by omega) (K g2 R2 (hs2.1.trans hs.1) (Nat.lt_of_lt_of_le g0 (hle2 0)))
theorem lc_3 (R : RC c h) (Z : FRZ h) (hc : c < 512) (h0 : 0 < qg_n h 0) (hL : LN h ≤ 4096) (hi : 8 * c + 8 ≤ LN h) (c1 : cells + 8 ≤ 600000) (c2 : slots + 418 ≤ 7302250) (K : ∀ g, RC (c + 1) g → LN g = LN h → 0 < qg_n g 0 → Vw yL_law cL_law 4 (some .boolean) room_1 600000 7302250 n0 Post 1230 [(0, .inr (.inr (some (0, 0)))), (1, .inr (.inr (some (1, 0)))), (2, .inr (.inr (some (33, 0)))), (3, .inl (nI (8 * c)))] [] g (cells + 8) (slots + 418)) : Vw yL_law cL_law 4 (some .boolean) room_1 600000 7302250 n0 Post 291 [(0, .inr (.inr (some (0, 0)))), (1, .inr (.inr (some (1, 0)))), (2, .inr (.inr (some (33, 0)))), (3, .inl (nI (8 * c)))] [] h cells slots := by
  obtain ⟨f, C7, C8⟩ := st_limit R (qg_i h 0 0 (8 * c + 1)) (qg_i h 0 0 (8 * c + 2)) (qg_i h 0 0 (8 * c + 3))
  refine V_aload_n 292 dL_law_291 rfl rfl ?_
  refine V_argc (j := 8 * c) 297 1 dL_law_292 dL_law_293 dL_law_294 (by decide) dL_law_295 dL_law_296 rfl rfl rfl (by omega) (by omega) rfl ?_
  refine V_argc (j := 8 * c) 302 2 dL_law_297 dL_law_298 dL_law_299 (by decide) dL_law_300 dL_law_301 rfl rfl rfl (by omega) (by omega) rfl ?_
  refine V_argc (j := 8 * c) 307 3 dL_law_302 dL_law_303 dL_law_304 (by decide) dL_law_305 dL_law_306 rfl rfl rfl (by omega) (by omega) rfl ?_
  refine V_cV3i 310 (C7.keepI h0) cs_L_30 rfl rfl (by decide) dL_law_307 rfl ⟨Nat.le_of_ble_eq_true rfl, Nat.le_of_ble_eq_true rfl⟩ (Nat.le_of_ble_eq_true rfl) ⟨by show cells + 0 ≤ 600000; omega, by show slots + 0 ≤ 7302250; omega⟩ (fun x g hx hle => ?_)
  obtain ⟨hx, hs⟩ := hx
  have g0 : 0 < qg_n g 0 := Nat.lt_of_lt_of_le h0 (hle 0)
  refine V_aload_n 311 dL_law_310 rfl rfl ?_
  refine V_argc (j := 8 * c) 316 1 dL_law_311 dL_law_312 dL_law_313 (by decide) dL_law_314 dL_law_315 rfl rfl rfl (by rw [hs.1]; omega) (by rw [hs.1]; omega) (hs.2 (8 * c + 1) (by omega)) ?_
  refine V_argc (j := 8 * c) 321 2 dL_law_316 dL_law_317 dL_law_318 (by decide) dL_law_319 dL_law_320 rfl rfl rfl (by rw [hs.1]; omega) (by rw [hs.1]; omega) (hs.2 (8 * c + 2) (by omega)) ?_
  refine V_argc (j := 8 * c) 326 3 dL_law_321 dL_law_322 dL_law_323 (by decide) dL_law_324 dL_law_325 rfl rfl rfl (by rw [hs.1]; omega) (by rw [hs.1]; omega) (hs.2 (8 * c + 3) (by omega)) ?_
  refine V_cV3i 329 ((C8 x g hx).keepI g0) cs_L_34 rfl rfl (by decide) dL_law_326 rfl ⟨Nat.le_of_ble_eq_true rfl, Nat.le_of_ble_eq_true rfl⟩ (Nat.le_of_ble_eq_true rfl) ⟨by show cells + 0 + 0 ≤ 600000; omega, by show slots + 0 + 0 ≤ 7302250; omega⟩ (fun y g2 hy hle2 => ?_)
  obtain ⟨⟨rfl, R2⟩, hs2⟩ := hy
  refine V_icmp_eq 1230 332 dL_law_329 rfl rfl (fun _ => ?_) (fun q => absurd rfl q)
  exact V_wide (by omega) (by omega) (K g2 R2 (hs2.1.trans hs.1) (Nat.lt_of_lt_of_le g0 (hle2 0)))
theorem lc_4 (R : RC c h) (Z : FRZ h) (hc : c < 512) (h0 : 0 < qg_n h 0) (hL : LN h ≤ 4096) (hi : 8 * c + 8 ≤ LN h) (c1 : cells + 8 ≤ 600000) (c2 : slots + 418 ≤ 7302250) (K : ∀ g, RC (c + 1) g → LN g = LN h → 0 < qg_n g 0 → Vw yL_law cL_law 4 (some .boolean) room_1 600000 7302250 n0 Post 1230 [(0, .inr (.inr (some (0, 0)))), (1, .inr (.inr (some (1, 0)))), (2, .inr (.inr (some (33, 0)))), (3, .inl (nI (8 * c)))] [] g (cells + 8) (slots + 418)) : Vw yL_law cL_law 4 (some .boolean) room_1 600000 7302250 n0 Post 334 [(0, .inr (.inr (some (0, 0)))), (1, .inr (.inr (some (1, 0)))), (2, .inr (.inr (some (33, 0)))), (3, .inl (nI (8 * c)))] [] h cells slots := by
  obtain ⟨f, C7, C8⟩ := st_request R (qg_i h 0 0 (8 * c + 1)) (qg_i h 0 0 (8 * c + 2)) (qg_i h 0 0 (8 * c + 3))
  refine V_aload_n 335 dL_law_334 rfl rfl ?_
  refine V_argc (j := 8 * c) 340 1 dL_law_335 dL_law_336 dL_law_337 (by decide) dL_law_338 dL_law_339 rfl rfl rfl (by omega) (by omega) rfl ?_
  refine V_argc (j := 8 * c) 345 2 dL_law_340 dL_law_341 dL_law_342 (by decide) dL_law_343 dL_law_344 rfl rfl rfl (by omega) (by omega) rfl ?_
  refine V_argc (j := 8 * c) 350 3 dL_law_345 dL_law_346 dL_law_347 (by decide) dL_law_348 dL_law_349 rfl rfl rfl (by omega) (by omega) rfl ?_
  refine V_cV3i 353 (C7.keepI h0) cs_L_35 rfl rfl (by decide) dL_law_350 rfl ⟨Nat.le_of_ble_eq_true rfl, Nat.le_of_ble_eq_true rfl⟩ (Nat.le_of_ble_eq_true rfl) ⟨by show cells + 1 ≤ 600000; omega, by show slots + 5 ≤ 7302250; omega⟩ (fun x g hx hle => ?_)
  obtain ⟨hx, hs⟩ := hx
  have g0 : 0 < qg_n g 0 := Nat.lt_of_lt_of_le h0 (hle 0)
  refine V_aload_n 354 dL_law_353 rfl rfl ?_
  refine V_argc (j := 8 * c) 359 1 dL_law_354 dL_law_355 dL_law_356 (by decide) dL_law_357 dL_law_358 rfl rfl rfl (by rw [hs.1]; omega) (by rw [hs.1]; omega) (hs.2 (8 * c + 1) (by omega)) ?_
  refine V_argc (j := 8 * c) 364 2 dL_law_359 dL_law_360 dL_law_361 (by decide) dL_law_362 dL_law_363 rfl rfl rfl (by rw [hs.1]; omega) (by rw [hs.1]; omega) (hs.2 (8 * c + 2) (by omega)) ?_
  refine V_argc (j := 8 * c) 369 3 dL_law_364 dL_law_365 dL_law_366 (by decide) dL_law_367 dL_law_368 rfl rfl rfl (by rw [hs.1]; omega) (by rw [hs.1]; omega) (hs.2 (8 * c + 3) (by omega)) ?_
  refine V_cV3i 372 ((C8 x g hx).keepI g0) cs_L_38 rfl rfl (by decide) dL_law_369 rfl ⟨Nat.le_of_ble_eq_true rfl, Nat.le_of_ble_eq_true rfl⟩ (Nat.le_of_ble_eq_true rfl) ⟨by show cells + 1 + 0 ≤ 600000; omega, by show slots + 5 + 0 ≤ 7302250; omega⟩ (fun y g2 hy hle2 => ?_)
  obtain ⟨⟨rfl, R2⟩, hs2⟩ := hy
  refine V_icmp_eq 1230 375 dL_law_372 rfl rfl (fun _ => ?_) (fun q => absurd rfl q)
  exact V_wide (by omega) (by omega) (K g2 R2 (hs2.1.trans hs.1) (Nat.lt_of_lt_of_le g0 (hle2 0)))
theorem lc_5 (R : RC c h) (Z : FRZ h) (hc : c < 512) (h0 : 0 < qg_n h 0) (hL : LN h ≤ 4096) (hi : 8 * c + 8 ≤ LN h) (c1 : cells + 8 ≤ 600000) (c2 : slots + 418 ≤ 7302250) (K : ∀ g, RC (c + 1) g → LN g = LN h → 0 < qg_n g 0 → Vw yL_law cL_law 4 (some .boolean) room_1 600000 7302250 n0 Post 1230 [(0, .inr (.inr (some (0, 0)))), (1, .inr (.inr (some (1, 0)))), (2, .inr (.inr (some (33, 0)))), (3, .inl (nI (8 * c)))] [] g (cells + 8) (slots + 418)) : Vw yL_law cL_law 4 (some .boolean) room_1 600000 7302250 n0 Post 377 [(0, .inr (.inr (some (0, 0)))), (1, .inr (.inr (some (1, 0)))), (2, .inr (.inr (some (33, 0)))), (3, .inl (nI (8 * c)))] [] h cells slots := by
  obtain ⟨f, C7, C8⟩ := st_settle R hc (qg_i h 0 0 (8 * c + 1)) (qg_i h 0 0 (8 * c + 2)) (lj (qg_i h 0 0 (8 * c + 3)) (qg_i h 0 0 (8 * c + 4)))
  refine V_aload_n 378 dL_law_377 rfl rfl ?_
  refine V_argc (j := 8 * c) 383 1 dL_law_378 dL_law_379 dL_law_380 (by decide) dL_law_381 dL_law_382 rfl rfl rfl (by omega) (by omega) rfl ?_
  refine V_argc (j := 8 * c) 388 2 dL_law_383 dL_law_384 dL_law_385 (by decide) dL_law_386 dL_law_387 rfl rfl rfl (by omega) (by omega) rfl ?_
  refine V_argc (j := 8 * c) 393 3 dL_law_388 dL_law_389 dL_law_390 (by decide) dL_law_391 dL_law_392 rfl rfl rfl (by omega) (by omega) rfl ?_
  refine V_i2l 394 dL_law_393 rfl ?_
  refine V_bipush (v := 32) 396 dL_law_394 rfl (by decide) ?_
  refine V_lshl 397 dL_law_396 rfl ?_
  refine V_argc (j := 8 * c) 402 4 dL_law_397 dL_law_398 dL_law_399 (by decide) dL_law_400 dL_law_401 rfl rfl rfl (by omega) (by omega) rfl ?_
  refine V_i2l 403 dL_law_402 rfl ?_
  refine V_ldc2 (v := 4294967295) 406 dL_law_403 rfl wc_L_23 ?_
  refine V_land 407 dL_law_406 rfl ?_
  refine V_lor 408 dL_law_407 rfl ?_
  refine V_cV3i 411 (C7.keepI h0) cs_L_39 rfl rfl (by decide) dL_law_408 rfl ⟨Nat.le_of_ble_eq_true rfl, Nat.le_of_ble_eq_true rfl⟩ (Nat.le_of_ble_eq_true rfl) ⟨by show cells + 0 ≤ 600000; omega, by show slots + 0 ≤ 7302250; omega⟩ (fun x g hx hle => ?_)
  obtain ⟨hx, hs⟩ := hx
  have g0 : 0 < qg_n g 0 := Nat.lt_of_lt_of_le h0 (hle 0)
  refine V_aload_n 412 dL_law_411 rfl rfl ?_
  refine V_argc (j := 8 * c) 417 1 dL_law_412 dL_law_413 dL_law_414 (by decide) dL_law_415 dL_law_416 rfl rfl rfl (by rw [hs.1]; omega) (by rw [hs.1]; omega) (hs.2 (8 * c + 1) (by omega)) ?_
  refine V_argc (j := 8 * c) 422 2 dL_law_417 dL_law_418 dL_law_419 (by decide) dL_law_420 dL_law_421 rfl rfl rfl (by rw [hs.1]; omega) (by rw [hs.1]; omega) (hs.2 (8 * c + 2) (by omega)) ?_
  refine V_argc (j := 8 * c) 427 3 dL_law_422 dL_law_423 dL_law_424 (by decide) dL_law_425 dL_law_426 rfl rfl rfl (by rw [hs.1]; omega) (by rw [hs.1]; omega) (hs.2 (8 * c + 3) (by omega)) ?_
  refine V_i2l 428 dL_law_427 rfl ?_
  refine V_bipush (v := 32) 430 dL_law_428 rfl (by decide) ?_
  refine V_lshl 431 dL_law_430 rfl ?_
  refine V_argc (j := 8 * c) 436 4 dL_law_431 dL_law_432 dL_law_433 (by decide) dL_law_434 dL_law_435 rfl rfl rfl (by rw [hs.1]; omega) (by rw [hs.1]; omega) (hs.2 (8 * c + 4) (by omega)) ?_
  refine V_i2l 437 dL_law_436 rfl ?_
  refine V_ldc2 (v := 4294967295) 440 dL_law_437 rfl wc_L_23 ?_
  refine V_land 441 dL_law_440 rfl ?_
  refine V_lor 442 dL_law_441 rfl ?_
  refine V_cV3i 445 ((C8 x g hx).keepI g0) cs_L_43 rfl rfl (by decide) dL_law_442 rfl ⟨Nat.le_of_ble_eq_true rfl, Nat.le_of_ble_eq_true rfl⟩ (Nat.le_of_ble_eq_true rfl) ⟨by show cells + 0 + 0 ≤ 600000; omega, by show slots + 0 + 0 ≤ 7302250; omega⟩ (fun y g2 hy hle2 => ?_)
  obtain ⟨⟨rfl, R2⟩, hs2⟩ := hy
  refine V_icmp_eq 1230 448 dL_law_445 rfl rfl (fun _ => ?_) (fun q => absurd rfl q)
  exact V_wide (by omega) (by omega) (K g2 R2 (hs2.1.trans hs.1) (Nat.lt_of_lt_of_le g0 (hle2 0)))
theorem lc_6 (R : RC c h) (Z : FRZ h) (hc : c < 512) (h0 : 0 < qg_n h 0) (hL : LN h ≤ 4096) (hi : 8 * c + 8 ≤ LN h) (c1 : cells + 8 ≤ 600000) (c2 : slots + 418 ≤ 7302250) (K : ∀ g, RC (c + 1) g → LN g = LN h → 0 < qg_n g 0 → Vw yL_law cL_law 4 (some .boolean) room_1 600000 7302250 n0 Post 1230 [(0, .inr (.inr (some (0, 0)))), (1, .inr (.inr (some (1, 0)))), (2, .inr (.inr (some (33, 0)))), (3, .inl (nI (8 * c)))] [] g (cells + 8) (slots + 418)) : Vw yL_law cL_law 4 (some .boolean) room_1 600000 7302250 n0 Post 450 [(0, .inr (.inr (some (0, 0)))), (1, .inr (.inr (some (1, 0)))), (2, .inr (.inr (some (33, 0)))), (3, .inl (nI (8 * c)))] [] h cells slots := by
  obtain ⟨f, C7, C8⟩ := st_drop R (qg_i h 0 0 (8 * c + 1))
  refine V_aload_n 451 dL_law_450 rfl rfl ?_
  refine V_argc (j := 8 * c) 456 1 dL_law_451 dL_law_452 dL_law_453 (by decide) dL_law_454 dL_law_455 rfl rfl rfl (by omega) (by omega) rfl ?_
  refine V_cV1i 459 (C7.keepI h0) cs_L_44 rfl rfl (by decide) dL_law_456 rfl ⟨Nat.le_of_ble_eq_true rfl, Nat.le_of_ble_eq_true rfl⟩ (Nat.le_of_ble_eq_true rfl) ⟨by show cells + 0 ≤ 600000; omega, by show slots + 0 ≤ 7302250; omega⟩ (fun x g hx hle => ?_)
  obtain ⟨hx, hs⟩ := hx
  have g0 : 0 < qg_n g 0 := Nat.lt_of_lt_of_le h0 (hle 0)
  refine V_aload_n 460 dL_law_459 rfl rfl ?_
  refine V_argc (j := 8 * c) 465 1 dL_law_460 dL_law_461 dL_law_462 (by decide) dL_law_463 dL_law_464 rfl rfl rfl (by rw [hs.1]; omega) (by rw [hs.1]; omega) (hs.2 (8 * c + 1) (by omega)) ?_
  refine V_cV1i 468 ((C8 x g hx).keepI g0) cs_L_47 rfl rfl (by decide) dL_law_465 rfl ⟨Nat.le_of_ble_eq_true rfl, Nat.le_of_ble_eq_true rfl⟩ (Nat.le_of_ble_eq_true rfl) ⟨by show cells + 0 + 0 ≤ 600000; omega, by show slots + 0 + 0 ≤ 7302250; omega⟩ (fun y g2 hy hle2 => ?_)
  obtain ⟨⟨rfl, R2⟩, hs2⟩ := hy
  refine V_icmp_eq 1230 471 dL_law_468 rfl rfl (fun _ => ?_) (fun q => absurd rfl q)
  exact V_wide (by omega) (by omega) (K g2 R2 (hs2.1.trans hs.1) (Nat.lt_of_lt_of_le g0 (hle2 0)))
theorem lc_7 (R : RC c h) (Z : FRZ h) (hc : c < 512) (h0 : 0 < qg_n h 0) (hL : LN h ≤ 4096) (hi : 8 * c + 8 ≤ LN h) (c1 : cells + 8 ≤ 600000) (c2 : slots + 418 ≤ 7302250) (K : ∀ g, RC (c + 1) g → LN g = LN h → 0 < qg_n g 0 → Vw yL_law cL_law 4 (some .boolean) room_1 600000 7302250 n0 Post 1230 [(0, .inr (.inr (some (0, 0)))), (1, .inr (.inr (some (1, 0)))), (2, .inr (.inr (some (33, 0)))), (3, .inl (nI (8 * c)))] [] g (cells + 8) (slots + 418)) : Vw yL_law cL_law 4 (some .boolean) room_1 600000 7302250 n0 Post 473 [(0, .inr (.inr (some (0, 0)))), (1, .inr (.inr (some (1, 0)))), (2, .inr (.inr (some (33, 0)))), (3, .inl (nI (8 * c)))] [] h cells slots := by
  obtain ⟨f, C7, C8⟩ := st_mode R (qg_i h 0 0 (8 * c + 1)) (qg_i h 0 0 (8 * c + 2)) (qg_i h 0 0 (8 * c + 3)) (qg_i h 0 0 (8 * c + 4))
  refine V_aload_n 474 dL_law_473 rfl rfl ?_
  refine V_argc (j := 8 * c) 479 1 dL_law_474 dL_law_475 dL_law_476 (by decide) dL_law_477 dL_law_478 rfl rfl rfl (by omega) (by omega) rfl ?_
  refine V_argc (j := 8 * c) 484 2 dL_law_479 dL_law_480 dL_law_481 (by decide) dL_law_482 dL_law_483 rfl rfl rfl (by omega) (by omega) rfl ?_
  refine V_argc (j := 8 * c) 489 3 dL_law_484 dL_law_485 dL_law_486 (by decide) dL_law_487 dL_law_488 rfl rfl rfl (by omega) (by omega) rfl ?_
  refine V_argc (j := 8 * c) 494 4 dL_law_489 dL_law_490 dL_law_491 (by decide) dL_law_492 dL_law_493 rfl rfl rfl (by omega) (by omega) rfl ?_
  refine V_cV4i 497 (C7.keepI h0) cs_L_48 rfl rfl (by decide) dL_law_494 rfl ⟨Nat.le_of_ble_eq_true rfl, Nat.le_of_ble_eq_true rfl⟩ (Nat.le_of_ble_eq_true rfl) ⟨by show cells + 0 ≤ 600000; omega, by show slots + 0 ≤ 7302250; omega⟩ (fun x g hx hle => ?_)
  obtain ⟨hx, hs⟩ := hx
  have g0 : 0 < qg_n g 0 := Nat.lt_of_lt_of_le h0 (hle 0)
  refine V_aload_n 498 dL_law_497 rfl rfl ?_
  refine V_argc (j := 8 * c) 503 1 dL_law_498 dL_law_499 dL_law_500 (by decide) dL_law_501 dL_law_502 rfl rfl rfl (by rw [hs.1]; omega) (by rw [hs.1]; omega) (hs.2 (8 * c + 1) (by omega)) ?_
  refine V_argc (j := 8 * c) 508 2 dL_law_503 dL_law_504 dL_law_505 (by decide) dL_law_506 dL_law_507 rfl rfl rfl (by rw [hs.1]; omega) (by rw [hs.1]; omega) (hs.2 (8 * c + 2) (by omega)) ?_
  refine V_argc (j := 8 * c) 513 3 dL_law_508 dL_law_509 dL_law_510 (by decide) dL_law_511 dL_law_512 rfl rfl rfl (by rw [hs.1]; omega) (by rw [hs.1]; omega) (hs.2 (8 * c + 3) (by omega)) ?_
  refine V_argc (j := 8 * c) 518 4 dL_law_513 dL_law_514 dL_law_515 (by decide) dL_law_516 dL_law_517 rfl rfl rfl (by rw [hs.1]; omega) (by rw [hs.1]; omega) (hs.2 (8 * c + 4) (by omega)) ?_
  refine V_cV4i 521 ((C8 x g hx).keepI g0) cs_L_52 rfl rfl (by decide) dL_law_518 rfl ⟨Nat.le_of_ble_eq_true rfl, Nat.le_of_ble_eq_true rfl⟩ (Nat.le_of_ble_eq_true rfl) ⟨by show cells + 0 + 0 ≤ 600000; omega, by show slots + 0 + 0 ≤ 7302250; omega⟩ (fun y g2 hy hle2 => ?_)
  obtain ⟨⟨rfl, R2⟩, hs2⟩ := hy
  refine V_icmp_eq 1230 524 dL_law_521 rfl rfl (fun _ => ?_) (fun q => absurd rfl q)
  exact V_wide (by omega) (by omega) (K g2 R2 (hs2.1.trans hs.1) (Nat.lt_of_lt_of_le g0 (hle2 0)))
theorem lc_8 (R : RC c h) (Z : FRZ h) (hc : c < 512) (h0 : 0 < qg_n h 0) (hL : LN h ≤ 4096) (hi : 8 * c + 8 ≤ LN h) (c1 : cells + 8 ≤ 600000) (c2 : slots + 418 ≤ 7302250) (K : ∀ g, RC (c + 1) g → LN g = LN h → 0 < qg_n g 0 → Vw yL_law cL_law 4 (some .boolean) room_1 600000 7302250 n0 Post 1230 [(0, .inr (.inr (some (0, 0)))), (1, .inr (.inr (some (1, 0)))), (2, .inr (.inr (some (33, 0)))), (3, .inl (nI (8 * c)))] [] g (cells + 8) (slots + 418)) : Vw yL_law cL_law 4 (some .boolean) room_1 600000 7302250 n0 Post 526 [(0, .inr (.inr (some (0, 0)))), (1, .inr (.inr (some (1, 0)))), (2, .inr (.inr (some (33, 0)))), (3, .inl (nI (8 * c)))] [] h cells slots := by
  obtain ⟨f, C7, C8⟩ := st_tier R (qg_i h 0 0 (8 * c + 1)) (qg_i h 0 0 (8 * c + 2)) (qg_i h 0 0 (8 * c + 3)) (lj (qg_i h 0 0 (8 * c + 4)) (qg_i h 0 0 (8 * c + 5))) (qg_i h 0 0 (8 * c + 6)) (qg_i h 0 0 (8 * c + 7))
  refine V_aload_n 527 dL_law_526 rfl rfl ?_
  refine V_argc (j := 8 * c) 532 1 dL_law_527 dL_law_528 dL_law_529 (by decide) dL_law_530 dL_law_531 rfl rfl rfl (by omega) (by omega) rfl ?_
  refine V_argc (j := 8 * c) 537 2 dL_law_532 dL_law_533 dL_law_534 (by decide) dL_law_535 dL_law_536 rfl rfl rfl (by omega) (by omega) rfl ?_
  refine V_argc (j := 8 * c) 542 3 dL_law_537 dL_law_538 dL_law_539 (by decide) dL_law_540 dL_law_541 rfl rfl rfl (by omega) (by omega) rfl ?_
  refine V_argc (j := 8 * c) 547 4 dL_law_542 dL_law_543 dL_law_544 (by decide) dL_law_545 dL_law_546 rfl rfl rfl (by omega) (by omega) rfl ?_
  refine V_i2l 548 dL_law_547 rfl ?_
  refine V_bipush (v := 32) 550 dL_law_548 rfl (by decide) ?_
  refine V_lshl 551 dL_law_550 rfl ?_
  refine V_argc (j := 8 * c) 556 5 dL_law_551 dL_law_552 dL_law_553 (by decide) dL_law_554 dL_law_555 rfl rfl rfl (by omega) (by omega) rfl ?_
  refine V_i2l 557 dL_law_556 rfl ?_
  refine V_ldc2 (v := 4294967295) 560 dL_law_557 rfl wc_L_23 ?_
  refine V_land 561 dL_law_560 rfl ?_
  refine V_lor 562 dL_law_561 rfl ?_
  refine V_argb (j := 8 * c) 568 6 dL_law_562 dL_law_563 dL_law_564 (by decide) dL_law_566 dL_law_567 rfl rfl rfl (by omega) (by omega) rfl ?_
  refine V_argb (j := 8 * c) 574 7 dL_law_568 dL_law_569 dL_law_570 (by decide) dL_law_572 dL_law_573 rfl rfl rfl (by omega) (by omega) rfl ?_
  refine V_cV6i 577 (C7.keepI h0) cs_L_53 rfl rfl (by decide) dL_law_574 rfl ⟨Nat.le_of_ble_eq_true rfl, Nat.le_of_ble_eq_true rfl⟩ (Nat.le_of_ble_eq_true rfl) ⟨by show cells + 0 ≤ 600000; omega, by show slots + 0 ≤ 7302250; omega⟩ (fun x g hx hle => ?_)
  obtain ⟨hx, hs⟩ := hx
  have g0 : 0 < qg_n g 0 := Nat.lt_of_lt_of_le h0 (hle 0)
  refine V_aload_n 578 dL_law_577 rfl rfl ?_
  refine V_argc (j := 8 * c) 583 1 dL_law_578 dL_law_579 dL_law_580 (by decide) dL_law_581 dL_law_582 rfl rfl rfl (by rw [hs.1]; omega) (by rw [hs.1]; omega) (hs.2 (8 * c + 1) (by omega)) ?_
  refine V_argc (j := 8 * c) 588 2 dL_law_583 dL_law_584 dL_law_585 (by decide) dL_law_586 dL_law_587 rfl rfl rfl (by rw [hs.1]; omega) (by rw [hs.1]; omega) (hs.2 (8 * c + 2) (by omega)) ?_
  refine V_argc (j := 8 * c) 593 3 dL_law_588 dL_law_589 dL_law_590 (by decide) dL_law_591 dL_law_592 rfl rfl rfl (by rw [hs.1]; omega) (by rw [hs.1]; omega) (hs.2 (8 * c + 3) (by omega)) ?_
  refine V_argc (j := 8 * c) 598 4 dL_law_593 dL_law_594 dL_law_595 (by decide) dL_law_596 dL_law_597 rfl rfl rfl (by rw [hs.1]; omega) (by rw [hs.1]; omega) (hs.2 (8 * c + 4) (by omega)) ?_
  refine V_i2l 599 dL_law_598 rfl ?_
  refine V_bipush (v := 32) 601 dL_law_599 rfl (by decide) ?_
  refine V_lshl 602 dL_law_601 rfl ?_
  refine V_argc (j := 8 * c) 607 5 dL_law_602 dL_law_603 dL_law_604 (by decide) dL_law_605 dL_law_606 rfl rfl rfl (by rw [hs.1]; omega) (by rw [hs.1]; omega) (hs.2 (8 * c + 5) (by omega)) ?_
  refine V_i2l 608 dL_law_607 rfl ?_
  refine V_ldc2 (v := 4294967295) 611 dL_law_608 rfl wc_L_23 ?_
  refine V_land 612 dL_law_611 rfl ?_
  refine V_lor 613 dL_law_612 rfl ?_
  refine V_argb (j := 8 * c) 619 6 dL_law_613 dL_law_614 dL_law_615 (by decide) dL_law_617 dL_law_618 rfl rfl rfl (by rw [hs.1]; omega) (by rw [hs.1]; omega) (hs.2 (8 * c + 6) (by omega)) ?_
  refine V_argb (j := 8 * c) 625 7 dL_law_619 dL_law_620 dL_law_621 (by decide) dL_law_623 dL_law_624 rfl rfl rfl (by rw [hs.1]; omega) (by rw [hs.1]; omega) (hs.2 (8 * c + 7) (by omega)) ?_
  refine V_cV6i 628 ((C8 x g hx).keepI g0) cs_L_57 rfl rfl (by decide) dL_law_625 rfl ⟨Nat.le_of_ble_eq_true rfl, Nat.le_of_ble_eq_true rfl⟩ (Nat.le_of_ble_eq_true rfl) ⟨by show cells + 0 + 0 ≤ 600000; omega, by show slots + 0 + 0 ≤ 7302250; omega⟩ (fun y g2 hy hle2 => ?_)
  obtain ⟨⟨rfl, R2⟩, hs2⟩ := hy
  refine V_icmp_eq 1230 631 dL_law_628 rfl rfl (fun _ => ?_) (fun q => absurd rfl q)
  exact V_wide (by omega) (by omega) (K g2 R2 (hs2.1.trans hs.1) (Nat.lt_of_lt_of_le g0 (hle2 0)))
theorem lc_9 (R : RC c h) (Z : FRZ h) (hc : c < 512) (h0 : 0 < qg_n h 0) (hL : LN h ≤ 4096) (hi : 8 * c + 8 ≤ LN h) (c1 : cells + 8 ≤ 600000) (c2 : slots + 418 ≤ 7302250) (K : ∀ g, RC (c + 1) g → LN g = LN h → 0 < qg_n g 0 → Vw yL_law cL_law 4 (some .boolean) room_1 600000 7302250 n0 Post 1230 [(0, .inr (.inr (some (0, 0)))), (1, .inr (.inr (some (1, 0)))), (2, .inr (.inr (some (33, 0)))), (3, .inl (nI (8 * c)))] [] g (cells + 8) (slots + 418)) : Vw yL_law cL_law 4 (some .boolean) room_1 600000 7302250 n0 Post 633 [(0, .inr (.inr (some (0, 0)))), (1, .inr (.inr (some (1, 0)))), (2, .inr (.inr (some (33, 0)))), (3, .inl (nI (8 * c)))] [] h cells slots := by
  obtain ⟨f, C7, C8⟩ := st_tiers R (qg_i h 0 0 (8 * c + 1)) (qg_i h 0 0 (8 * c + 2)) (qg_i h 0 0 (8 * c + 3))
  refine V_aload_n 634 dL_law_633 rfl rfl ?_
  refine V_argc (j := 8 * c) 639 1 dL_law_634 dL_law_635 dL_law_636 (by decide) dL_law_637 dL_law_638 rfl rfl rfl (by omega) (by omega) rfl ?_
  refine V_argc (j := 8 * c) 644 2 dL_law_639 dL_law_640 dL_law_641 (by decide) dL_law_642 dL_law_643 rfl rfl rfl (by omega) (by omega) rfl ?_
  refine V_argc (j := 8 * c) 649 3 dL_law_644 dL_law_645 dL_law_646 (by decide) dL_law_647 dL_law_648 rfl rfl rfl (by omega) (by omega) rfl ?_
  refine V_cV3i 652 (C7.keepI h0) cs_L_58 rfl rfl (by decide) dL_law_649 rfl ⟨Nat.le_of_ble_eq_true rfl, Nat.le_of_ble_eq_true rfl⟩ (Nat.le_of_ble_eq_true rfl) ⟨by show cells + 0 ≤ 600000; omega, by show slots + 0 ≤ 7302250; omega⟩ (fun x g hx hle => ?_)
  obtain ⟨hx, hs⟩ := hx
  have g0 : 0 < qg_n g 0 := Nat.lt_of_lt_of_le h0 (hle 0)
  refine V_aload_n 653 dL_law_652 rfl rfl ?_
  refine V_argc (j := 8 * c) 658 1 dL_law_653 dL_law_654 dL_law_655 (by decide) dL_law_656 dL_law_657 rfl rfl rfl (by rw [hs.1]; omega) (by rw [hs.1]; omega) (hs.2 (8 * c + 1) (by omega)) ?_
  refine V_argc (j := 8 * c) 663 2 dL_law_658 dL_law_659 dL_law_660 (by decide) dL_law_661 dL_law_662 rfl rfl rfl (by rw [hs.1]; omega) (by rw [hs.1]; omega) (hs.2 (8 * c + 2) (by omega)) ?_
  refine V_argc (j := 8 * c) 668 3 dL_law_663 dL_law_664 dL_law_665 (by decide) dL_law_666 dL_law_667 rfl rfl rfl (by rw [hs.1]; omega) (by rw [hs.1]; omega) (hs.2 (8 * c + 3) (by omega)) ?_
  refine V_cV3i 671 ((C8 x g hx).keepI g0) cs_L_61 rfl rfl (by decide) dL_law_668 rfl ⟨Nat.le_of_ble_eq_true rfl, Nat.le_of_ble_eq_true rfl⟩ (Nat.le_of_ble_eq_true rfl) ⟨by show cells + 0 + 0 ≤ 600000; omega, by show slots + 0 + 0 ≤ 7302250; omega⟩ (fun y g2 hy hle2 => ?_)
  obtain ⟨⟨rfl, R2⟩, hs2⟩ := hy
  refine V_icmp_eq 1230 674 dL_law_671 rfl rfl (fun _ => ?_) (fun q => absurd rfl q)
  exact V_wide (by omega) (by omega) (K g2 R2 (hs2.1.trans hs.1) (Nat.lt_of_lt_of_le g0 (hle2 0)))
theorem lc_10 (R : RC c h) (Z : FRZ h) (hc : c < 512) (h0 : 0 < qg_n h 0) (hL : LN h ≤ 4096) (hi : 8 * c + 8 ≤ LN h) (c1 : cells + 8 ≤ 600000) (c2 : slots + 418 ≤ 7302250) (K : ∀ g, RC (c + 1) g → LN g = LN h → 0 < qg_n g 0 → Vw yL_law cL_law 4 (some .boolean) room_1 600000 7302250 n0 Post 1230 [(0, .inr (.inr (some (0, 0)))), (1, .inr (.inr (some (1, 0)))), (2, .inr (.inr (some (33, 0)))), (3, .inl (nI (8 * c)))] [] g (cells + 8) (slots + 418)) : Vw yL_law cL_law 4 (some .boolean) room_1 600000 7302250 n0 Post 676 [(0, .inr (.inr (some (0, 0)))), (1, .inr (.inr (some (1, 0)))), (2, .inr (.inr (some (33, 0)))), (3, .inl (nI (8 * c)))] [] h cells slots := by
  obtain ⟨f, C7, C8⟩ := st_cost R (qg_i h 0 0 (8 * c + 1)) (qg_i h 0 0 (8 * c + 2)) (lj (qg_i h 0 0 (8 * c + 3)) (qg_i h 0 0 (8 * c + 4)))
  refine V_aload_n 677 dL_law_676 rfl rfl ?_
  refine V_argc (j := 8 * c) 682 1 dL_law_677 dL_law_678 dL_law_679 (by decide) dL_law_680 dL_law_681 rfl rfl rfl (by omega) (by omega) rfl ?_
  refine V_argc (j := 8 * c) 687 2 dL_law_682 dL_law_683 dL_law_684 (by decide) dL_law_685 dL_law_686 rfl rfl rfl (by omega) (by omega) rfl ?_
  refine V_argc (j := 8 * c) 692 3 dL_law_687 dL_law_688 dL_law_689 (by decide) dL_law_690 dL_law_691 rfl rfl rfl (by omega) (by omega) rfl ?_
  refine V_i2l 693 dL_law_692 rfl ?_
  refine V_bipush (v := 32) 695 dL_law_693 rfl (by decide) ?_
  refine V_lshl 696 dL_law_695 rfl ?_
  refine V_argc (j := 8 * c) 701 4 dL_law_696 dL_law_697 dL_law_698 (by decide) dL_law_699 dL_law_700 rfl rfl rfl (by omega) (by omega) rfl ?_
  refine V_i2l 702 dL_law_701 rfl ?_
  refine V_ldc2 (v := 4294967295) 705 dL_law_702 rfl wc_L_23 ?_
  refine V_land 706 dL_law_705 rfl ?_
  refine V_lor 707 dL_law_706 rfl ?_
  refine V_cV3l 710 (C7.keepL h0) cs_L_62 rfl rfl (by decide) dL_law_707 rfl ⟨Nat.le_of_ble_eq_true rfl, Nat.le_of_ble_eq_true rfl⟩ (Nat.le_of_ble_eq_true rfl) ⟨by show cells + 0 ≤ 600000; omega, by show slots + 0 ≤ 7302250; omega⟩ (fun x g hx hle => ?_)
  obtain ⟨hx, hs⟩ := hx
  have g0 : 0 < qg_n g 0 := Nat.lt_of_lt_of_le h0 (hle 0)
  refine V_aload_n 711 dL_law_710 rfl rfl ?_
  refine V_argc (j := 8 * c) 716 1 dL_law_711 dL_law_712 dL_law_713 (by decide) dL_law_714 dL_law_715 rfl rfl rfl (by rw [hs.1]; omega) (by rw [hs.1]; omega) (hs.2 (8 * c + 1) (by omega)) ?_
  refine V_argc (j := 8 * c) 721 2 dL_law_716 dL_law_717 dL_law_718 (by decide) dL_law_719 dL_law_720 rfl rfl rfl (by rw [hs.1]; omega) (by rw [hs.1]; omega) (hs.2 (8 * c + 2) (by omega)) ?_
  refine V_argc (j := 8 * c) 726 3 dL_law_721 dL_law_722 dL_law_723 (by decide) dL_law_724 dL_law_725 rfl rfl rfl (by rw [hs.1]; omega) (by rw [hs.1]; omega) (hs.2 (8 * c + 3) (by omega)) ?_
  refine V_i2l 727 dL_law_726 rfl ?_
  refine V_bipush (v := 32) 729 dL_law_727 rfl (by decide) ?_
  refine V_lshl 730 dL_law_729 rfl ?_
  refine V_argc (j := 8 * c) 735 4 dL_law_730 dL_law_731 dL_law_732 (by decide) dL_law_733 dL_law_734 rfl rfl rfl (by rw [hs.1]; omega) (by rw [hs.1]; omega) (hs.2 (8 * c + 4) (by omega)) ?_
  refine V_i2l 736 dL_law_735 rfl ?_
  refine V_ldc2 (v := 4294967295) 739 dL_law_736 rfl wc_L_23 ?_
  refine V_land 740 dL_law_739 rfl ?_
  refine V_lor 741 dL_law_740 rfl ?_
  refine V_cV3l 744 ((C8 x g hx).keepL g0) cs_L_66 rfl rfl (by decide) dL_law_741 rfl ⟨Nat.le_of_ble_eq_true rfl, Nat.le_of_ble_eq_true rfl⟩ (Nat.le_of_ble_eq_true rfl) ⟨by show cells + 0 + 0 ≤ 600000; omega, by show slots + 0 + 0 ≤ 7302250; omega⟩ (fun y g2 hy hle2 => ?_)
  obtain ⟨⟨rfl, R2⟩, hs2⟩ := hy
  refine V_lcmp 745 dL_law_744 rfl ?_
  refine V_if_eq 1230 748 dL_law_745 rfl rfl (fun _ => ?_) (fun q => absurd (lg_same _) q)
  exact V_wide (by omega) (by omega) (K g2 R2 (hs2.1.trans hs.1) (Nat.lt_of_lt_of_le g0 (hle2 0)))
theorem lc_11 (R : RC c h) (Z : FRZ h) (hc : c < 512) (h0 : 0 < qg_n h 0) (hL : LN h ≤ 4096) (hi : 8 * c + 8 ≤ LN h) (c1 : cells + 8 ≤ 600000) (c2 : slots + 418 ≤ 7302250) (K : ∀ g, RC (c + 1) g → LN g = LN h → 0 < qg_n g 0 → Vw yL_law cL_law 4 (some .boolean) room_1 600000 7302250 n0 Post 1230 [(0, .inr (.inr (some (0, 0)))), (1, .inr (.inr (some (1, 0)))), (2, .inr (.inr (some (33, 0)))), (3, .inl (nI (8 * c)))] [] g (cells + 8) (slots + 418)) : Vw yL_law cL_law 4 (some .boolean) room_1 600000 7302250 n0 Post 750 [(0, .inr (.inr (some (0, 0)))), (1, .inr (.inr (some (1, 0)))), (2, .inr (.inr (some (33, 0)))), (3, .inl (nI (8 * c)))] [] h cells slots := by
  obtain ⟨f, C7, C8⟩ := st_terms R (qg_i h 0 0 (8 * c + 1)) (qg_i h 0 0 (8 * c + 2)) (lj (qg_i h 0 0 (8 * c + 3)) (qg_i h 0 0 (8 * c + 4))) (qg_i h 0 0 (8 * c + 5))
  refine V_aload_n 751 dL_law_750 rfl rfl ?_
  refine V_argc (j := 8 * c) 756 1 dL_law_751 dL_law_752 dL_law_753 (by decide) dL_law_754 dL_law_755 rfl rfl rfl (by omega) (by omega) rfl ?_
  refine V_argc (j := 8 * c) 761 2 dL_law_756 dL_law_757 dL_law_758 (by decide) dL_law_759 dL_law_760 rfl rfl rfl (by omega) (by omega) rfl ?_
  refine V_argc (j := 8 * c) 766 3 dL_law_761 dL_law_762 dL_law_763 (by decide) dL_law_764 dL_law_765 rfl rfl rfl (by omega) (by omega) rfl ?_
  refine V_i2l 767 dL_law_766 rfl ?_
  refine V_bipush (v := 32) 769 dL_law_767 rfl (by decide) ?_
  refine V_lshl 770 dL_law_769 rfl ?_
  refine V_argc (j := 8 * c) 775 4 dL_law_770 dL_law_771 dL_law_772 (by decide) dL_law_773 dL_law_774 rfl rfl rfl (by omega) (by omega) rfl ?_
  refine V_i2l 776 dL_law_775 rfl ?_
  refine V_ldc2 (v := 4294967295) 779 dL_law_776 rfl wc_L_23 ?_
  refine V_land 780 dL_law_779 rfl ?_
  refine V_lor 781 dL_law_780 rfl ?_
  refine V_argc (j := 8 * c) 786 5 dL_law_781 dL_law_782 dL_law_783 (by decide) dL_law_784 dL_law_785 rfl rfl rfl (by omega) (by omega) rfl ?_
  refine V_cV4i 789 (C7.keepI h0) cs_L_67 rfl rfl (by decide) dL_law_786 rfl ⟨Nat.le_of_ble_eq_true rfl, Nat.le_of_ble_eq_true rfl⟩ (Nat.le_of_ble_eq_true rfl) ⟨by show cells + 0 ≤ 600000; omega, by show slots + 0 ≤ 7302250; omega⟩ (fun x g hx hle => ?_)
  obtain ⟨hx, hs⟩ := hx
  have g0 : 0 < qg_n g 0 := Nat.lt_of_lt_of_le h0 (hle 0)
  refine V_aload_n 790 dL_law_789 rfl rfl ?_
  refine V_argc (j := 8 * c) 795 1 dL_law_790 dL_law_791 dL_law_792 (by decide) dL_law_793 dL_law_794 rfl rfl rfl (by rw [hs.1]; omega) (by rw [hs.1]; omega) (hs.2 (8 * c + 1) (by omega)) ?_
  refine V_argc (j := 8 * c) 800 2 dL_law_795 dL_law_796 dL_law_797 (by decide) dL_law_798 dL_law_799 rfl rfl rfl (by rw [hs.1]; omega) (by rw [hs.1]; omega) (hs.2 (8 * c + 2) (by omega)) ?_
  refine V_argc (j := 8 * c) 805 3 dL_law_800 dL_law_801 dL_law_802 (by decide) dL_law_803 dL_law_804 rfl rfl rfl (by rw [hs.1]; omega) (by rw [hs.1]; omega) (hs.2 (8 * c + 3) (by omega)) ?_
  refine V_i2l 806 dL_law_805 rfl ?_
  refine V_bipush (v := 32) 808 dL_law_806 rfl (by decide) ?_
  refine V_lshl 809 dL_law_808 rfl ?_
  refine V_argc (j := 8 * c) 814 4 dL_law_809 dL_law_810 dL_law_811 (by decide) dL_law_812 dL_law_813 rfl rfl rfl (by rw [hs.1]; omega) (by rw [hs.1]; omega) (hs.2 (8 * c + 4) (by omega)) ?_
  refine V_i2l 815 dL_law_814 rfl ?_
  refine V_ldc2 (v := 4294967295) 818 dL_law_815 rfl wc_L_23 ?_
  refine V_land 819 dL_law_818 rfl ?_
  refine V_lor 820 dL_law_819 rfl ?_
  refine V_argc (j := 8 * c) 825 5 dL_law_820 dL_law_821 dL_law_822 (by decide) dL_law_823 dL_law_824 rfl rfl rfl (by rw [hs.1]; omega) (by rw [hs.1]; omega) (hs.2 (8 * c + 5) (by omega)) ?_
  refine V_cV4i 828 ((C8 x g hx).keepI g0) cs_L_71 rfl rfl (by decide) dL_law_825 rfl ⟨Nat.le_of_ble_eq_true rfl, Nat.le_of_ble_eq_true rfl⟩ (Nat.le_of_ble_eq_true rfl) ⟨by show cells + 0 + 0 ≤ 600000; omega, by show slots + 0 + 0 ≤ 7302250; omega⟩ (fun y g2 hy hle2 => ?_)
  obtain ⟨⟨rfl, R2⟩, hs2⟩ := hy
  refine V_icmp_eq 1230 831 dL_law_828 rfl rfl (fun _ => ?_) (fun q => absurd rfl q)
  exact V_wide (by omega) (by omega) (K g2 R2 (hs2.1.trans hs.1) (Nat.lt_of_lt_of_le g0 (hle2 0)))
theorem lc_12 (R : RC c h) (Z : FRZ h) (hc : c < 512) (h0 : 0 < qg_n h 0) (hL : LN h ≤ 4096) (hi : 8 * c + 8 ≤ LN h) (c1 : cells + 8 ≤ 600000) (c2 : slots + 418 ≤ 7302250) (K : ∀ g, RC (c + 1) g → LN g = LN h → 0 < qg_n g 0 → Vw yL_law cL_law 4 (some .boolean) room_1 600000 7302250 n0 Post 1230 [(0, .inr (.inr (some (0, 0)))), (1, .inr (.inr (some (1, 0)))), (2, .inr (.inr (some (33, 0)))), (3, .inl (nI (8 * c)))] [] g (cells + 8) (slots + 418)) : Vw yL_law cL_law 4 (some .boolean) room_1 600000 7302250 n0 Post 833 [(0, .inr (.inr (some (0, 0)))), (1, .inr (.inr (some (1, 0)))), (2, .inr (.inr (some (33, 0)))), (3, .inl (nI (8 * c)))] [] h cells slots := by
  obtain ⟨f, C7, C8⟩ := st_credit R (qg_i h 0 0 (8 * c + 1)) (lj (qg_i h 0 0 (8 * c + 2)) (qg_i h 0 0 (8 * c + 3))) (qg_i h 0 0 (8 * c + 4))
  refine V_aload_n 834 dL_law_833 rfl rfl ?_
  refine V_argc (j := 8 * c) 839 1 dL_law_834 dL_law_835 dL_law_836 (by decide) dL_law_837 dL_law_838 rfl rfl rfl (by omega) (by omega) rfl ?_
  refine V_argc (j := 8 * c) 844 2 dL_law_839 dL_law_840 dL_law_841 (by decide) dL_law_842 dL_law_843 rfl rfl rfl (by omega) (by omega) rfl ?_
  refine V_i2l 845 dL_law_844 rfl ?_
  refine V_bipush (v := 32) 847 dL_law_845 rfl (by decide) ?_
  refine V_lshl 848 dL_law_847 rfl ?_
  refine V_argc (j := 8 * c) 853 3 dL_law_848 dL_law_849 dL_law_850 (by decide) dL_law_851 dL_law_852 rfl rfl rfl (by omega) (by omega) rfl ?_
  refine V_i2l 854 dL_law_853 rfl ?_
  refine V_ldc2 (v := 4294967295) 857 dL_law_854 rfl wc_L_23 ?_
  refine V_land 858 dL_law_857 rfl ?_
  refine V_lor 859 dL_law_858 rfl ?_
  refine V_argc (j := 8 * c) 864 4 dL_law_859 dL_law_860 dL_law_861 (by decide) dL_law_862 dL_law_863 rfl rfl rfl (by omega) (by omega) rfl ?_
  refine V_cV3i 867 (C7.keepI h0) cs_L_72 rfl rfl (by decide) dL_law_864 rfl ⟨Nat.le_of_ble_eq_true rfl, Nat.le_of_ble_eq_true rfl⟩ (Nat.le_of_ble_eq_true rfl) ⟨by show cells + 0 ≤ 600000; omega, by show slots + 0 ≤ 7302250; omega⟩ (fun x g hx hle => ?_)
  obtain ⟨hx, hs⟩ := hx
  have g0 : 0 < qg_n g 0 := Nat.lt_of_lt_of_le h0 (hle 0)
  refine V_aload_n 868 dL_law_867 rfl rfl ?_
  refine V_argc (j := 8 * c) 873 1 dL_law_868 dL_law_869 dL_law_870 (by decide) dL_law_871 dL_law_872 rfl rfl rfl (by rw [hs.1]; omega) (by rw [hs.1]; omega) (hs.2 (8 * c + 1) (by omega)) ?_
  refine V_argc (j := 8 * c) 878 2 dL_law_873 dL_law_874 dL_law_875 (by decide) dL_law_876 dL_law_877 rfl rfl rfl (by rw [hs.1]; omega) (by rw [hs.1]; omega) (hs.2 (8 * c + 2) (by omega)) ?_
  refine V_i2l 879 dL_law_878 rfl ?_
  refine V_bipush (v := 32) 881 dL_law_879 rfl (by decide) ?_
  refine V_lshl 882 dL_law_881 rfl ?_
  refine V_argc (j := 8 * c) 887 3 dL_law_882 dL_law_883 dL_law_884 (by decide) dL_law_885 dL_law_886 rfl rfl rfl (by rw [hs.1]; omega) (by rw [hs.1]; omega) (hs.2 (8 * c + 3) (by omega)) ?_
  refine V_i2l 888 dL_law_887 rfl ?_
  refine V_ldc2 (v := 4294967295) 891 dL_law_888 rfl wc_L_23 ?_
  refine V_land 892 dL_law_891 rfl ?_
  refine V_lor 893 dL_law_892 rfl ?_
  refine V_argc (j := 8 * c) 898 4 dL_law_893 dL_law_894 dL_law_895 (by decide) dL_law_896 dL_law_897 rfl rfl rfl (by rw [hs.1]; omega) (by rw [hs.1]; omega) (hs.2 (8 * c + 4) (by omega)) ?_
  refine V_cV3i 901 ((C8 x g hx).keepI g0) cs_L_76 rfl rfl (by decide) dL_law_898 rfl ⟨Nat.le_of_ble_eq_true rfl, Nat.le_of_ble_eq_true rfl⟩ (Nat.le_of_ble_eq_true rfl) ⟨by show cells + 0 + 0 ≤ 600000; omega, by show slots + 0 + 0 ≤ 7302250; omega⟩ (fun y g2 hy hle2 => ?_)
  obtain ⟨⟨rfl, R2⟩, hs2⟩ := hy
  refine V_icmp_eq 1230 904 dL_law_901 rfl rfl (fun _ => ?_) (fun q => absurd rfl q)
  exact V_wide (by omega) (by omega) (K g2 R2 (hs2.1.trans hs.1) (Nat.lt_of_lt_of_le g0 (hle2 0)))
theorem lc_13 (R : RC c h) (Z : FRZ h) (hc : c < 512) (h0 : 0 < qg_n h 0) (hL : LN h ≤ 4096) (hi : 8 * c + 8 ≤ LN h) (c1 : cells + 8 ≤ 600000) (c2 : slots + 418 ≤ 7302250) (K : ∀ g, RC (c + 1) g → LN g = LN h → 0 < qg_n g 0 → Vw yL_law cL_law 4 (some .boolean) room_1 600000 7302250 n0 Post 1230 [(0, .inr (.inr (some (0, 0)))), (1, .inr (.inr (some (1, 0)))), (2, .inr (.inr (some (33, 0)))), (3, .inl (nI (8 * c)))] [] g (cells + 8) (slots + 418)) : Vw yL_law cL_law 4 (some .boolean) room_1 600000 7302250 n0 Post 906 [(0, .inr (.inr (some (0, 0)))), (1, .inr (.inr (some (1, 0)))), (2, .inr (.inr (some (33, 0)))), (3, .inl (nI (8 * c)))] [] h cells slots := by
  obtain ⟨f, C7, C8⟩ := st_close R Z hc (qg_i h 0 0 (8 * c + 1))
  refine V_aload_n 907 dL_law_906 rfl rfl ?_
  refine V_argc (j := 8 * c) 912 1 dL_law_907 dL_law_908 dL_law_909 (by decide) dL_law_910 dL_law_911 rfl rfl rfl (by omega) (by omega) rfl ?_
  refine V_cV1i 915 (C7.keepI h0) cs_L_77 rfl rfl (by decide) dL_law_912 rfl ⟨Nat.le_of_ble_eq_true rfl, Nat.le_of_ble_eq_true rfl⟩ (Nat.le_of_ble_eq_true rfl) ⟨by show cells + 5 ≤ 600000; omega, by show slots + 92 ≤ 7302250; omega⟩ (fun x g hx hle => ?_)
  obtain ⟨hx, hs⟩ := hx
  have g0 : 0 < qg_n g 0 := Nat.lt_of_lt_of_le h0 (hle 0)
  refine V_aload_n 916 dL_law_915 rfl rfl ?_
  refine V_argc (j := 8 * c) 921 1 dL_law_916 dL_law_917 dL_law_918 (by decide) dL_law_919 dL_law_920 rfl rfl rfl (by rw [hs.1]; omega) (by rw [hs.1]; omega) (hs.2 (8 * c + 1) (by omega)) ?_
  refine V_cV1i 924 ((C8 x g hx).keepI g0) cs_L_80 rfl rfl (by decide) dL_law_921 rfl ⟨Nat.le_of_ble_eq_true rfl, Nat.le_of_ble_eq_true rfl⟩ (Nat.le_of_ble_eq_true rfl) ⟨by show cells + 5 + 0 ≤ 600000; omega, by show slots + 92 + 0 ≤ 7302250; omega⟩ (fun y g2 hy hle2 => ?_)
  obtain ⟨⟨rfl, R2⟩, hs2⟩ := hy
  refine V_icmp_eq 1230 927 dL_law_924 rfl rfl (fun _ => ?_) (fun q => absurd rfl q)
  exact V_wide (by omega) (by omega) (K g2 R2 (hs2.1.trans hs.1) (Nat.lt_of_lt_of_le g0 (hle2 0)))
theorem lc_14 (R : RC c h) (Z : FRZ h) (hc : c < 512) (h0 : 0 < qg_n h 0) (hL : LN h ≤ 4096) (hi : 8 * c + 8 ≤ LN h) (c1 : cells + 8 ≤ 600000) (c2 : slots + 418 ≤ 7302250) (K : ∀ g, RC (c + 1) g → LN g = LN h → 0 < qg_n g 0 → Vw yL_law cL_law 4 (some .boolean) room_1 600000 7302250 n0 Post 1230 [(0, .inr (.inr (some (0, 0)))), (1, .inr (.inr (some (1, 0)))), (2, .inr (.inr (some (33, 0)))), (3, .inl (nI (8 * c)))] [] g (cells + 8) (slots + 418)) : Vw yL_law cL_law 4 (some .boolean) room_1 600000 7302250 n0 Post 929 [(0, .inr (.inr (some (0, 0)))), (1, .inr (.inr (some (1, 0)))), (2, .inr (.inr (some (33, 0)))), (3, .inl (nI (8 * c)))] [] h cells slots := by
  obtain ⟨f, C7, C8⟩ := st_used R (qg_i h 0 0 (8 * c + 1)) (qg_i h 0 0 (8 * c + 2)) (qg_i h 0 0 (8 * c + 3))
  refine V_aload_n 930 dL_law_929 rfl rfl ?_
  refine V_argc (j := 8 * c) 935 1 dL_law_930 dL_law_931 dL_law_932 (by decide) dL_law_933 dL_law_934 rfl rfl rfl (by omega) (by omega) rfl ?_
  refine V_argc (j := 8 * c) 940 2 dL_law_935 dL_law_936 dL_law_937 (by decide) dL_law_938 dL_law_939 rfl rfl rfl (by omega) (by omega) rfl ?_
  refine V_argc (j := 8 * c) 945 3 dL_law_940 dL_law_941 dL_law_942 (by decide) dL_law_943 dL_law_944 rfl rfl rfl (by omega) (by omega) rfl ?_
  refine V_cV3l 948 (C7.keepL h0) cs_L_81 rfl rfl (by decide) dL_law_945 rfl ⟨Nat.le_of_ble_eq_true rfl, Nat.le_of_ble_eq_true rfl⟩ (Nat.le_of_ble_eq_true rfl) ⟨by show cells + 0 ≤ 600000; omega, by show slots + 0 ≤ 7302250; omega⟩ (fun x g hx hle => ?_)
  obtain ⟨hx, hs⟩ := hx
  have g0 : 0 < qg_n g 0 := Nat.lt_of_lt_of_le h0 (hle 0)
  refine V_aload_n 949 dL_law_948 rfl rfl ?_
  refine V_argc (j := 8 * c) 954 1 dL_law_949 dL_law_950 dL_law_951 (by decide) dL_law_952 dL_law_953 rfl rfl rfl (by rw [hs.1]; omega) (by rw [hs.1]; omega) (hs.2 (8 * c + 1) (by omega)) ?_
  refine V_argc (j := 8 * c) 959 2 dL_law_954 dL_law_955 dL_law_956 (by decide) dL_law_957 dL_law_958 rfl rfl rfl (by rw [hs.1]; omega) (by rw [hs.1]; omega) (hs.2 (8 * c + 2) (by omega)) ?_
  refine V_argc (j := 8 * c) 964 3 dL_law_959 dL_law_960 dL_law_961 (by decide) dL_law_962 dL_law_963 rfl rfl rfl (by rw [hs.1]; omega) (by rw [hs.1]; omega) (hs.2 (8 * c + 3) (by omega)) ?_
  refine V_cV3l 967 ((C8 x g hx).keepL g0) cs_L_85 rfl rfl (by decide) dL_law_964 rfl ⟨Nat.le_of_ble_eq_true rfl, Nat.le_of_ble_eq_true rfl⟩ (Nat.le_of_ble_eq_true rfl) ⟨by show cells + 0 + 0 ≤ 600000; omega, by show slots + 0 + 0 ≤ 7302250; omega⟩ (fun y g2 hy hle2 => ?_)
  obtain ⟨⟨rfl, R2⟩, hs2⟩ := hy
  refine V_lcmp 968 dL_law_967 rfl ?_
  refine V_if_eq 1230 971 dL_law_968 rfl rfl (fun _ => ?_) (fun q => absurd (lg_same _) q)
  exact V_wide (by omega) (by omega) (K g2 R2 (hs2.1.trans hs.1) (Nat.lt_of_lt_of_le g0 (hle2 0)))
theorem lc_15 (R : RC c h) (Z : FRZ h) (hc : c < 512) (h0 : 0 < qg_n h 0) (hL : LN h ≤ 4096) (hi : 8 * c + 8 ≤ LN h) (c1 : cells + 8 ≤ 600000) (c2 : slots + 418 ≤ 7302250) (K : ∀ g, RC (c + 1) g → LN g = LN h → 0 < qg_n g 0 → Vw yL_law cL_law 4 (some .boolean) room_1 600000 7302250 n0 Post 1230 [(0, .inr (.inr (some (0, 0)))), (1, .inr (.inr (some (1, 0)))), (2, .inr (.inr (some (33, 0)))), (3, .inl (nI (8 * c)))] [] g (cells + 8) (slots + 418)) : Vw yL_law cL_law 4 (some .boolean) room_1 600000 7302250 n0 Post 973 [(0, .inr (.inr (some (0, 0)))), (1, .inr (.inr (some (1, 0)))), (2, .inr (.inr (some (33, 0)))), (3, .inl (nI (8 * c)))] [] h cells slots := by
  obtain ⟨f, C7, C8⟩ := st_held R (qg_i h 0 0 (8 * c + 1)) (qg_i h 0 0 (8 * c + 2))
  refine V_aload_n 974 dL_law_973 rfl rfl ?_
  refine V_argc (j := 8 * c) 979 1 dL_law_974 dL_law_975 dL_law_976 (by decide) dL_law_977 dL_law_978 rfl rfl rfl (by omega) (by omega) rfl ?_
  refine V_argc (j := 8 * c) 984 2 dL_law_979 dL_law_980 dL_law_981 (by decide) dL_law_982 dL_law_983 rfl rfl rfl (by omega) (by omega) rfl ?_
  refine V_cV2i 987 (C7.keepI h0) cs_L_86 rfl rfl (by decide) dL_law_984 rfl ⟨Nat.le_of_ble_eq_true rfl, Nat.le_of_ble_eq_true rfl⟩ (Nat.le_of_ble_eq_true rfl) ⟨by show cells + 0 ≤ 600000; omega, by show slots + 0 ≤ 7302250; omega⟩ (fun x g hx hle => ?_)
  obtain ⟨hx, hs⟩ := hx
  have g0 : 0 < qg_n g 0 := Nat.lt_of_lt_of_le h0 (hle 0)
  refine V_aload_n 988 dL_law_987 rfl rfl ?_
  refine V_argc (j := 8 * c) 993 1 dL_law_988 dL_law_989 dL_law_990 (by decide) dL_law_991 dL_law_992 rfl rfl rfl (by rw [hs.1]; omega) (by rw [hs.1]; omega) (hs.2 (8 * c + 1) (by omega)) ?_
  refine V_argc (j := 8 * c) 998 2 dL_law_993 dL_law_994 dL_law_995 (by decide) dL_law_996 dL_law_997 rfl rfl rfl (by rw [hs.1]; omega) (by rw [hs.1]; omega) (hs.2 (8 * c + 2) (by omega)) ?_
  refine V_cV2i 1001 ((C8 x g hx).keepI g0) cs_L_89 rfl rfl (by decide) dL_law_998 rfl ⟨Nat.le_of_ble_eq_true rfl, Nat.le_of_ble_eq_true rfl⟩ (Nat.le_of_ble_eq_true rfl) ⟨by show cells + 0 + 0 ≤ 600000; omega, by show slots + 0 + 0 ≤ 7302250; omega⟩ (fun y g2 hy hle2 => ?_)
  obtain ⟨⟨rfl, R2⟩, hs2⟩ := hy
  refine V_icmp_eq 1230 1004 dL_law_1001 rfl rfl (fun _ => ?_) (fun q => absurd rfl q)
  exact V_wide (by omega) (by omega) (K g2 R2 (hs2.1.trans hs.1) (Nat.lt_of_lt_of_le g0 (hle2 0)))
theorem lc_16 (R : RC c h) (Z : FRZ h) (hc : c < 512) (h0 : 0 < qg_n h 0) (hL : LN h ≤ 4096) (hi : 8 * c + 8 ≤ LN h) (c1 : cells + 8 ≤ 600000) (c2 : slots + 418 ≤ 7302250) (K : ∀ g, RC (c + 1) g → LN g = LN h → 0 < qg_n g 0 → Vw yL_law cL_law 4 (some .boolean) room_1 600000 7302250 n0 Post 1230 [(0, .inr (.inr (some (0, 0)))), (1, .inr (.inr (some (1, 0)))), (2, .inr (.inr (some (33, 0)))), (3, .inl (nI (8 * c)))] [] g (cells + 8) (slots + 418)) : Vw yL_law cL_law 4 (some .boolean) room_1 600000 7302250 n0 Post 1006 [(0, .inr (.inr (some (0, 0)))), (1, .inr (.inr (some (1, 0)))), (2, .inr (.inr (some (33, 0)))), (3, .inl (nI (8 * c)))] [] h cells slots := by
  obtain ⟨f, C7, C8⟩ := st_room R (qg_i h 0 0 (8 * c + 1)) (qg_i h 0 0 (8 * c + 2))
  refine V_aload_n 1007 dL_law_1006 rfl rfl ?_
  refine V_argc (j := 8 * c) 1012 1 dL_law_1007 dL_law_1008 dL_law_1009 (by decide) dL_law_1010 dL_law_1011 rfl rfl rfl (by omega) (by omega) rfl ?_
  refine V_argc (j := 8 * c) 1017 2 dL_law_1012 dL_law_1013 dL_law_1014 (by decide) dL_law_1015 dL_law_1016 rfl rfl rfl (by omega) (by omega) rfl ?_
  refine V_cV2i 1020 (C7.keepI h0) cs_L_90 rfl rfl (by decide) dL_law_1017 rfl ⟨Nat.le_of_ble_eq_true rfl, Nat.le_of_ble_eq_true rfl⟩ (Nat.le_of_ble_eq_true rfl) ⟨by show cells + 0 ≤ 600000; omega, by show slots + 0 ≤ 7302250; omega⟩ (fun x g hx hle => ?_)
  obtain ⟨hx, hs⟩ := hx
  have g0 : 0 < qg_n g 0 := Nat.lt_of_lt_of_le h0 (hle 0)
  refine V_aload_n 1021 dL_law_1020 rfl rfl ?_
  refine V_argc (j := 8 * c) 1026 1 dL_law_1021 dL_law_1022 dL_law_1023 (by decide) dL_law_1024 dL_law_1025 rfl rfl rfl (by rw [hs.1]; omega) (by rw [hs.1]; omega) (hs.2 (8 * c + 1) (by omega)) ?_
  refine V_argc (j := 8 * c) 1031 2 dL_law_1026 dL_law_1027 dL_law_1028 (by decide) dL_law_1029 dL_law_1030 rfl rfl rfl (by rw [hs.1]; omega) (by rw [hs.1]; omega) (hs.2 (8 * c + 2) (by omega)) ?_
  refine V_cV2i 1034 ((C8 x g hx).keepI g0) cs_L_93 rfl rfl (by decide) dL_law_1031 rfl ⟨Nat.le_of_ble_eq_true rfl, Nat.le_of_ble_eq_true rfl⟩ (Nat.le_of_ble_eq_true rfl) ⟨by show cells + 0 + 0 ≤ 600000; omega, by show slots + 0 + 0 ≤ 7302250; omega⟩ (fun y g2 hy hle2 => ?_)
  obtain ⟨⟨rfl, R2⟩, hs2⟩ := hy
  refine V_icmp_eq 1230 1037 dL_law_1034 rfl rfl (fun _ => ?_) (fun q => absurd rfl q)
  exact V_wide (by omega) (by omega) (K g2 R2 (hs2.1.trans hs.1) (Nat.lt_of_lt_of_le g0 (hle2 0)))
theorem lc_17 (R : RC c h) (Z : FRZ h) (hc : c < 512) (h0 : 0 < qg_n h 0) (hL : LN h ≤ 4096) (hi : 8 * c + 8 ≤ LN h) (c1 : cells + 8 ≤ 600000) (c2 : slots + 418 ≤ 7302250) (K : ∀ g, RC (c + 1) g → LN g = LN h → 0 < qg_n g 0 → Vw yL_law cL_law 4 (some .boolean) room_1 600000 7302250 n0 Post 1230 [(0, .inr (.inr (some (0, 0)))), (1, .inr (.inr (some (1, 0)))), (2, .inr (.inr (some (33, 0)))), (3, .inl (nI (8 * c)))] [] g (cells + 8) (slots + 418)) : Vw yL_law cL_law 4 (some .boolean) room_1 600000 7302250 n0 Post 1039 [(0, .inr (.inr (some (0, 0)))), (1, .inr (.inr (some (1, 0)))), (2, .inr (.inr (some (33, 0)))), (3, .inl (nI (8 * c)))] [] h cells slots := by
  obtain ⟨f, C7, C8⟩ := st_hold R (qg_i h 0 0 (8 * c + 1)) (qg_i h 0 0 (8 * c + 2))
  refine V_aload_n 1040 dL_law_1039 rfl rfl ?_
  refine V_argc (j := 8 * c) 1045 1 dL_law_1040 dL_law_1041 dL_law_1042 (by decide) dL_law_1043 dL_law_1044 rfl rfl rfl (by omega) (by omega) rfl ?_
  refine V_argc (j := 8 * c) 1050 2 dL_law_1045 dL_law_1046 dL_law_1047 (by decide) dL_law_1048 dL_law_1049 rfl rfl rfl (by omega) (by omega) rfl ?_
  refine V_cV2i 1053 (C7.keepI h0) cs_L_94 rfl rfl (by decide) dL_law_1050 rfl ⟨Nat.le_of_ble_eq_true rfl, Nat.le_of_ble_eq_true rfl⟩ (Nat.le_of_ble_eq_true rfl) ⟨by show cells + 0 ≤ 600000; omega, by show slots + 0 ≤ 7302250; omega⟩ (fun x g hx hle => ?_)
  obtain ⟨hx, hs⟩ := hx
  have g0 : 0 < qg_n g 0 := Nat.lt_of_lt_of_le h0 (hle 0)
  refine V_aload_n 1054 dL_law_1053 rfl rfl ?_
  refine V_argc (j := 8 * c) 1059 1 dL_law_1054 dL_law_1055 dL_law_1056 (by decide) dL_law_1057 dL_law_1058 rfl rfl rfl (by rw [hs.1]; omega) (by rw [hs.1]; omega) (hs.2 (8 * c + 1) (by omega)) ?_
  refine V_argc (j := 8 * c) 1064 2 dL_law_1059 dL_law_1060 dL_law_1061 (by decide) dL_law_1062 dL_law_1063 rfl rfl rfl (by rw [hs.1]; omega) (by rw [hs.1]; omega) (hs.2 (8 * c + 2) (by omega)) ?_
  refine V_cV2i 1067 ((C8 x g hx).keepI g0) cs_L_97 rfl rfl (by decide) dL_law_1064 rfl ⟨Nat.le_of_ble_eq_true rfl, Nat.le_of_ble_eq_true rfl⟩ (Nat.le_of_ble_eq_true rfl) ⟨by show cells + 0 + 0 ≤ 600000; omega, by show slots + 0 + 0 ≤ 7302250; omega⟩ (fun y g2 hy hle2 => ?_)
  obtain ⟨⟨rfl, R2⟩, hs2⟩ := hy
  refine V_icmp_eq 1230 1070 dL_law_1067 rfl rfl (fun _ => ?_) (fun q => absurd rfl q)
  exact V_wide (by omega) (by omega) (K g2 R2 (hs2.1.trans hs.1) (Nat.lt_of_lt_of_le g0 (hle2 0)))
theorem lc_18 (R : RC c h) (Z : FRZ h) (hc : c < 512) (h0 : 0 < qg_n h 0) (hL : LN h ≤ 4096) (hi : 8 * c + 8 ≤ LN h) (c1 : cells + 8 ≤ 600000) (c2 : slots + 418 ≤ 7302250) (K : ∀ g, RC (c + 1) g → LN g = LN h → 0 < qg_n g 0 → Vw yL_law cL_law 4 (some .boolean) room_1 600000 7302250 n0 Post 1230 [(0, .inr (.inr (some (0, 0)))), (1, .inr (.inr (some (1, 0)))), (2, .inr (.inr (some (33, 0)))), (3, .inl (nI (8 * c)))] [] g (cells + 8) (slots + 418)) : Vw yL_law cL_law 4 (some .boolean) room_1 600000 7302250 n0 Post 1072 [(0, .inr (.inr (some (0, 0)))), (1, .inr (.inr (some (1, 0)))), (2, .inr (.inr (some (33, 0)))), (3, .inl (nI (8 * c)))] [] h cells slots := by
  obtain ⟨f, C7, C8⟩ := st_line R (qg_i h 0 0 (8 * c + 1)) (qg_i h 0 0 (8 * c + 2)) (qg_i h 0 0 (8 * c + 3))
  refine V_aload_n 1073 dL_law_1072 rfl rfl ?_
  refine V_argc (j := 8 * c) 1078 1 dL_law_1073 dL_law_1074 dL_law_1075 (by decide) dL_law_1076 dL_law_1077 rfl rfl rfl (by omega) (by omega) rfl ?_
  refine V_argc (j := 8 * c) 1083 2 dL_law_1078 dL_law_1079 dL_law_1080 (by decide) dL_law_1081 dL_law_1082 rfl rfl rfl (by omega) (by omega) rfl ?_
  refine V_argc (j := 8 * c) 1088 3 dL_law_1083 dL_law_1084 dL_law_1085 (by decide) dL_law_1086 dL_law_1087 rfl rfl rfl (by omega) (by omega) rfl ?_
  refine V_cV3l 1091 (C7.keepL h0) cs_L_98 rfl rfl (by decide) dL_law_1088 rfl ⟨Nat.le_of_ble_eq_true rfl, Nat.le_of_ble_eq_true rfl⟩ (Nat.le_of_ble_eq_true rfl) ⟨by show cells + 0 ≤ 600000; omega, by show slots + 0 ≤ 7302250; omega⟩ (fun x g hx hle => ?_)
  obtain ⟨hx, hs⟩ := hx
  have g0 : 0 < qg_n g 0 := Nat.lt_of_lt_of_le h0 (hle 0)
  refine V_aload_n 1092 dL_law_1091 rfl rfl ?_
  refine V_argc (j := 8 * c) 1097 1 dL_law_1092 dL_law_1093 dL_law_1094 (by decide) dL_law_1095 dL_law_1096 rfl rfl rfl (by rw [hs.1]; omega) (by rw [hs.1]; omega) (hs.2 (8 * c + 1) (by omega)) ?_
  refine V_argc (j := 8 * c) 1102 2 dL_law_1097 dL_law_1098 dL_law_1099 (by decide) dL_law_1100 dL_law_1101 rfl rfl rfl (by rw [hs.1]; omega) (by rw [hs.1]; omega) (hs.2 (8 * c + 2) (by omega)) ?_
  refine V_argc (j := 8 * c) 1107 3 dL_law_1102 dL_law_1103 dL_law_1104 (by decide) dL_law_1105 dL_law_1106 rfl rfl rfl (by rw [hs.1]; omega) (by rw [hs.1]; omega) (hs.2 (8 * c + 3) (by omega)) ?_
  refine V_cV3l 1110 ((C8 x g hx).keepL g0) cs_L_101 rfl rfl (by decide) dL_law_1107 rfl ⟨Nat.le_of_ble_eq_true rfl, Nat.le_of_ble_eq_true rfl⟩ (Nat.le_of_ble_eq_true rfl) ⟨by show cells + 0 + 0 ≤ 600000; omega, by show slots + 0 + 0 ≤ 7302250; omega⟩ (fun y g2 hy hle2 => ?_)
  obtain ⟨⟨rfl, R2⟩, hs2⟩ := hy
  refine V_lcmp 1111 dL_law_1110 rfl ?_
  refine V_if_eq 1230 1114 dL_law_1111 rfl rfl (fun _ => ?_) (fun q => absurd (lg_same _) q)
  exact V_wide (by omega) (by omega) (K g2 R2 (hs2.1.trans hs.1) (Nat.lt_of_lt_of_le g0 (hle2 0)))
theorem lc_19 (R : RC c h) (Z : FRZ h) (hc : c < 512) (h0 : 0 < qg_n h 0) (hL : LN h ≤ 4096) (hi : 8 * c + 8 ≤ LN h) (c1 : cells + 8 ≤ 600000) (c2 : slots + 418 ≤ 7302250) (K : ∀ g, RC (c + 1) g → LN g = LN h → 0 < qg_n g 0 → Vw yL_law cL_law 4 (some .boolean) room_1 600000 7302250 n0 Post 1230 [(0, .inr (.inr (some (0, 0)))), (1, .inr (.inr (some (1, 0)))), (2, .inr (.inr (some (33, 0)))), (3, .inl (nI (8 * c)))] [] g (cells + 8) (slots + 418)) : Vw yL_law cL_law 4 (some .boolean) room_1 600000 7302250 n0 Post 1116 [(0, .inr (.inr (some (0, 0)))), (1, .inr (.inr (some (1, 0)))), (2, .inr (.inr (some (33, 0)))), (3, .inl (nI (8 * c)))] [] h cells slots := by
  obtain ⟨f, C7, C8⟩ := st_invoice R (qg_i h 0 0 (8 * c + 1)) (qg_i h 0 0 (8 * c + 2))
  refine V_aload_n 1117 dL_law_1116 rfl rfl ?_
  refine V_argc (j := 8 * c) 1122 1 dL_law_1117 dL_law_1118 dL_law_1119 (by decide) dL_law_1120 dL_law_1121 rfl rfl rfl (by omega) (by omega) rfl ?_
  refine V_argc (j := 8 * c) 1127 2 dL_law_1122 dL_law_1123 dL_law_1124 (by decide) dL_law_1125 dL_law_1126 rfl rfl rfl (by omega) (by omega) rfl ?_
  refine V_cV2l 1130 (C7.keepL h0) cs_L_102 rfl rfl (by decide) dL_law_1127 rfl ⟨Nat.le_of_ble_eq_true rfl, Nat.le_of_ble_eq_true rfl⟩ (Nat.le_of_ble_eq_true rfl) ⟨by show cells + 0 ≤ 600000; omega, by show slots + 0 ≤ 7302250; omega⟩ (fun x g hx hle => ?_)
  obtain ⟨hx, hs⟩ := hx
  have g0 : 0 < qg_n g 0 := Nat.lt_of_lt_of_le h0 (hle 0)
  refine V_aload_n 1131 dL_law_1130 rfl rfl ?_
  refine V_argc (j := 8 * c) 1136 1 dL_law_1131 dL_law_1132 dL_law_1133 (by decide) dL_law_1134 dL_law_1135 rfl rfl rfl (by rw [hs.1]; omega) (by rw [hs.1]; omega) (hs.2 (8 * c + 1) (by omega)) ?_
  refine V_argc (j := 8 * c) 1141 2 dL_law_1136 dL_law_1137 dL_law_1138 (by decide) dL_law_1139 dL_law_1140 rfl rfl rfl (by rw [hs.1]; omega) (by rw [hs.1]; omega) (hs.2 (8 * c + 2) (by omega)) ?_
  refine V_cV2l 1144 ((C8 x g hx).keepL g0) cs_L_106 rfl rfl (by decide) dL_law_1141 rfl ⟨Nat.le_of_ble_eq_true rfl, Nat.le_of_ble_eq_true rfl⟩ (Nat.le_of_ble_eq_true rfl) ⟨by show cells + 0 + 0 ≤ 600000; omega, by show slots + 0 + 0 ≤ 7302250; omega⟩ (fun y g2 hy hle2 => ?_)
  obtain ⟨⟨rfl, R2⟩, hs2⟩ := hy
  refine V_lcmp 1145 dL_law_1144 rfl ?_
  refine V_if_eq 1230 1148 dL_law_1145 rfl rfl (fun _ => ?_) (fun q => absurd (lg_same _) q)
  exact V_wide (by omega) (by omega) (K g2 R2 (hs2.1.trans hs.1) (Nat.lt_of_lt_of_le g0 (hle2 0)))
theorem lc_20 (R : RC c h) (Z : FRZ h) (hc : c < 512) (h0 : 0 < qg_n h 0) (hL : LN h ≤ 4096) (hi : 8 * c + 8 ≤ LN h) (c1 : cells + 8 ≤ 600000) (c2 : slots + 418 ≤ 7302250) (K : ∀ g, RC (c + 1) g → LN g = LN h → 0 < qg_n g 0 → Vw yL_law cL_law 4 (some .boolean) room_1 600000 7302250 n0 Post 1230 [(0, .inr (.inr (some (0, 0)))), (1, .inr (.inr (some (1, 0)))), (2, .inr (.inr (some (33, 0)))), (3, .inl (nI (8 * c)))] [] g (cells + 8) (slots + 418)) : Vw yL_law cL_law 4 (some .boolean) room_1 600000 7302250 n0 Post 1150 [(0, .inr (.inr (some (0, 0)))), (1, .inr (.inr (some (1, 0)))), (2, .inr (.inr (some (33, 0)))), (3, .inl (nI (8 * c)))] [] h cells slots := by
  obtain ⟨f, C7, C8⟩ := st_left R (qg_i h 0 0 (8 * c + 1)) (qg_i h 0 0 (8 * c + 2))
  refine V_aload_n 1151 dL_law_1150 rfl rfl ?_
  refine V_argc (j := 8 * c) 1156 1 dL_law_1151 dL_law_1152 dL_law_1153 (by decide) dL_law_1154 dL_law_1155 rfl rfl rfl (by omega) (by omega) rfl ?_
  refine V_argc (j := 8 * c) 1161 2 dL_law_1156 dL_law_1157 dL_law_1158 (by decide) dL_law_1159 dL_law_1160 rfl rfl rfl (by omega) (by omega) rfl ?_
  refine V_cV2l 1164 (C7.keepL h0) cs_L_107 rfl rfl (by decide) dL_law_1161 rfl ⟨Nat.le_of_ble_eq_true rfl, Nat.le_of_ble_eq_true rfl⟩ (Nat.le_of_ble_eq_true rfl) ⟨by show cells + 0 ≤ 600000; omega, by show slots + 0 ≤ 7302250; omega⟩ (fun x g hx hle => ?_)
  obtain ⟨hx, hs⟩ := hx
  have g0 : 0 < qg_n g 0 := Nat.lt_of_lt_of_le h0 (hle 0)
  refine V_aload_n 1165 dL_law_1164 rfl rfl ?_
  refine V_argc (j := 8 * c) 1170 1 dL_law_1165 dL_law_1166 dL_law_1167 (by decide) dL_law_1168 dL_law_1169 rfl rfl rfl (by rw [hs.1]; omega) (by rw [hs.1]; omega) (hs.2 (8 * c + 1) (by omega)) ?_
  refine V_argc (j := 8 * c) 1175 2 dL_law_1170 dL_law_1171 dL_law_1172 (by decide) dL_law_1173 dL_law_1174 rfl rfl rfl (by rw [hs.1]; omega) (by rw [hs.1]; omega) (hs.2 (8 * c + 2) (by omega)) ?_
  refine V_cV2l 1178 ((C8 x g hx).keepL g0) cs_L_110 rfl rfl (by decide) dL_law_1175 rfl ⟨Nat.le_of_ble_eq_true rfl, Nat.le_of_ble_eq_true rfl⟩ (Nat.le_of_ble_eq_true rfl) ⟨by show cells + 0 + 0 ≤ 600000; omega, by show slots + 0 + 0 ≤ 7302250; omega⟩ (fun y g2 hy hle2 => ?_)
  obtain ⟨⟨rfl, R2⟩, hs2⟩ := hy
  refine V_lcmp 1179 dL_law_1178 rfl ?_
  refine V_if_eq 1230 1182 dL_law_1179 rfl rfl (fun _ => ?_) (fun q => absurd (lg_same _) q)
  exact V_wide (by omega) (by omega) (K g2 R2 (hs2.1.trans hs.1) (Nat.lt_of_lt_of_le g0 (hle2 0)))
theorem lc_21 (R : RC c h) (Z : FRZ h) (hc : c < 512) (h0 : 0 < qg_n h 0) (hL : LN h ≤ 4096) (hi : 8 * c + 8 ≤ LN h) (c1 : cells + 8 ≤ 600000) (c2 : slots + 418 ≤ 7302250) (K : ∀ g, RC (c + 1) g → LN g = LN h → 0 < qg_n g 0 → Vw yL_law cL_law 4 (some .boolean) room_1 600000 7302250 n0 Post 1230 [(0, .inr (.inr (some (0, 0)))), (1, .inr (.inr (some (1, 0)))), (2, .inr (.inr (some (33, 0)))), (3, .inl (nI (8 * c)))] [] g (cells + 8) (slots + 418)) : Vw yL_law cL_law 4 (some .boolean) room_1 600000 7302250 n0 Post 1184 [(0, .inr (.inr (some (0, 0)))), (1, .inr (.inr (some (1, 0)))), (2, .inr (.inr (some (33, 0)))), (3, .inl (nI (8 * c)))] [] h cells slots := by
  obtain ⟨f, C7, C8⟩ := st_count R (qg_i h 0 0 (8 * c + 1))
  refine V_aload_n 1185 dL_law_1184 rfl rfl ?_
  refine V_argc (j := 8 * c) 1190 1 dL_law_1185 dL_law_1186 dL_law_1187 (by decide) dL_law_1188 dL_law_1189 rfl rfl rfl (by omega) (by omega) rfl ?_
  refine V_cV1i 1193 (C7.keepI h0) cs_L_111 rfl rfl (by decide) dL_law_1190 rfl ⟨Nat.le_of_ble_eq_true rfl, Nat.le_of_ble_eq_true rfl⟩ (Nat.le_of_ble_eq_true rfl) ⟨by show cells + 0 ≤ 600000; omega, by show slots + 0 ≤ 7302250; omega⟩ (fun x g hx hle => ?_)
  obtain ⟨hx, hs⟩ := hx
  have g0 : 0 < qg_n g 0 := Nat.lt_of_lt_of_le h0 (hle 0)
  refine V_aload_n 1194 dL_law_1193 rfl rfl ?_
  refine V_argc (j := 8 * c) 1199 1 dL_law_1194 dL_law_1195 dL_law_1196 (by decide) dL_law_1197 dL_law_1198 rfl rfl rfl (by rw [hs.1]; omega) (by rw [hs.1]; omega) (hs.2 (8 * c + 1) (by omega)) ?_
  refine V_cV1i 1202 ((C8 x g hx).keepI g0) cs_L_114 rfl rfl (by decide) dL_law_1199 rfl ⟨Nat.le_of_ble_eq_true rfl, Nat.le_of_ble_eq_true rfl⟩ (Nat.le_of_ble_eq_true rfl) ⟨by show cells + 0 + 0 ≤ 600000; omega, by show slots + 0 + 0 ≤ 7302250; omega⟩ (fun y g2 hy hle2 => ?_)
  obtain ⟨⟨rfl, R2⟩, hs2⟩ := hy
  refine V_icmp_eq 1230 1205 dL_law_1202 rfl rfl (fun _ => ?_) (fun q => absurd rfl q)
  exact V_wide (by omega) (by omega) (K g2 R2 (hs2.1.trans hs.1) (Nat.lt_of_lt_of_le g0 (hle2 0)))
theorem lc_22 (R : RC c h) (Z : FRZ h) (hc : c < 512) (h0 : 0 < qg_n h 0) (hL : LN h ≤ 4096) (hi : 8 * c + 8 ≤ LN h) (c1 : cells + 8 ≤ 600000) (c2 : slots + 418 ≤ 7302250) (K : ∀ g, RC (c + 1) g → LN g = LN h → 0 < qg_n g 0 → Vw yL_law cL_law 4 (some .boolean) room_1 600000 7302250 n0 Post 1230 [(0, .inr (.inr (some (0, 0)))), (1, .inr (.inr (some (1, 0)))), (2, .inr (.inr (some (33, 0)))), (3, .inl (nI (8 * c)))] [] g (cells + 8) (slots + 418)) : Vw yL_law cL_law 4 (some .boolean) room_1 600000 7302250 n0 Post 1207 [(0, .inr (.inr (some (0, 0)))), (1, .inr (.inr (some (1, 0)))), (2, .inr (.inr (some (33, 0)))), (3, .inl (nI (8 * c)))] [] h cells slots := by
  obtain ⟨f, C7, C8⟩ := st_closed R (qg_i h 0 0 (8 * c + 1))
  refine V_aload_n 1208 dL_law_1207 rfl rfl ?_
  refine V_argc (j := 8 * c) 1213 1 dL_law_1208 dL_law_1209 dL_law_1210 (by decide) dL_law_1211 dL_law_1212 rfl rfl rfl (by omega) (by omega) rfl ?_
  refine V_cV1i 1216 (C7.keepI h0) cs_L_115 rfl rfl (by decide) dL_law_1213 rfl ⟨Nat.le_of_ble_eq_true rfl, Nat.le_of_ble_eq_true rfl⟩ (Nat.le_of_ble_eq_true rfl) ⟨by show cells + 0 ≤ 600000; omega, by show slots + 0 ≤ 7302250; omega⟩ (fun x g hx hle => ?_)
  obtain ⟨hx, hs⟩ := hx
  have g0 : 0 < qg_n g 0 := Nat.lt_of_lt_of_le h0 (hle 0)
  refine V_aload_n 1217 dL_law_1216 rfl rfl ?_
  refine V_argc (j := 8 * c) 1222 1 dL_law_1217 dL_law_1218 dL_law_1219 (by decide) dL_law_1220 dL_law_1221 rfl rfl rfl (by rw [hs.1]; omega) (by rw [hs.1]; omega) (hs.2 (8 * c + 1) (by omega)) ?_
  refine V_cV1i 1225 ((C8 x g hx).keepI g0) cs_L_118 rfl rfl (by decide) dL_law_1222 rfl ⟨Nat.le_of_ble_eq_true rfl, Nat.le_of_ble_eq_true rfl⟩ (Nat.le_of_ble_eq_true rfl) ⟨by show cells + 0 + 0 ≤ 600000; omega, by show slots + 0 + 0 ≤ 7302250; omega⟩ (fun y g2 hy hle2 => ?_)
  obtain ⟨⟨rfl, R2⟩, hs2⟩ := hy
  refine V_icmp_eq 1230 1228 dL_law_1225 rfl rfl (fun _ => ?_) (fun q => absurd rfl q)
  exact V_wide (by omega) (by omega) (K g2 R2 (hs2.1.trans hs.1) (Nat.lt_of_lt_of_le g0 (hle2 0)))
theorem lw_lt {n c : Nat} (h1 : n < 8 * c + 8) (h2 : c ≤ 512) : Int32.ofNat n - 8 < nI (8 * c) := by
  rw [Int32.lt_iff_toInt_lt, Int32.toInt_sub, nI_toInt (by omega)]
  have e1 : (Int32.ofNat n).toInt = n := nI_toInt (n := n) (by omega)
  have e2 : (8 : Int32).toInt = 8 := rfl
  rw [e1, e2, Int.bmod_eq_of_le (by omega) (by omega)]
  omega
theorem lw_loop (hP : ∀ g, Post (some (.inl 1)) g) : ∀ (m c : Nat) (h : qH), RC c h → 0 < qg_n h 0 → LN h ≤ 4096 → c ≤ 512 → LN h < 8 * (c + m) + 8 → Vw yL_law cL_law 4 (some .boolean) room_1 600000 7302250 n0 Post 18 [(0, .inr (.inr (some (0, 0)))), (1, .inr (.inr (some (1, 0)))), (2, .inr (.inr (some (33, 0)))), (3, .inl (nI (8 * c)))] [] h (300 + 8 * c) (40000 + 418 * c) := by
  intro m
  induction m with
  | zero =>
    intro c h R h0 hL hc hm
    refine V_iload_n 19 dL_law_18 rfl rfl ?_
    refine V_aload_n 20 dL_law_19 rfl rfl ?_
    refine V_slen 21 dL_law_20 rfl ?_
    refine V_bipush (v := 8) 23 dL_law_21 rfl (by decide) ?_
    refine V_isub 24 dL_law_23 rfl ?_
    refine V_icmp_gt 1236 27 dL_law_24 rfl rfl (fun _ => ?_) (fun q => absurd (lw_lt (show LN h < 8 * c + 8 by omega) (by omega)) q)
    refine V_iconst (v := 1) 1237 dL_law_1236 rfl (by decide) ?_
    exact V_iret dL_law_1237 rfl (by decide) (hP h) (by omega) (by omega)
  | succ m ih =>
    intro c h R h0 hL hc hm
    refine V_fresh (fun Z => ?_)
    refine V_iload_n 19 dL_law_18 rfl rfl ?_
    refine V_aload_n 20 dL_law_19 rfl rfl ?_
    refine V_slen 21 dL_law_20 rfl ?_
    refine V_bipush (v := 8) 23 dL_law_21 rfl (by decide) ?_
    refine V_isub 24 dL_law_23 rfl ?_
    refine V_icmp_gt 1236 27 dL_law_24 rfl rfl (fun _ => ?_) (fun q => ?_)
    · refine V_iconst (v := 1) 1237 dL_law_1236 rfl (by decide) ?_
      exact V_iret dL_law_1237 rfl (by decide) (hP h) (by omega) (by omega)
    · have hi : 8 * c + 8 ≤ LN h := by
        rcases Nat.lt_or_ge (LN h) (8 * c + 8) with z | z
        · exact absurd (lw_lt z (by omega)) q
        · exact z
      have K : ∀ g, RC (c + 1) g → LN g = LN h → 0 < qg_n g 0 → Vw yL_law cL_law 4 (some .boolean) room_1 600000 7302250 n0 Post 1230 [(0, .inr (.inr (some (0, 0)))), (1, .inr (.inr (some (1, 0)))), (2, .inr (.inr (some (33, 0)))), (3, .inl (nI (8 * c)))] [] g (300 + 8 * c + 8) (40000 + 418 * c + 418) := fun g R2 e1 e2 => by
        refine V_iinc (v := nI (8 * (c + 1))) 1233 dL_law_1230 rfl rfl (by rw [show Int32.ofInt 8 = nI 8 by decide, nI_add, show 8 * c + 8 = 8 * (c + 1) by omega]) (by decide) ?_
        refine V_goto 18 dL_law_1233 rfl ?_
        refine V_cnt (cells' := 300 + 8 * (c + 1)) (slots' := 40000 + 418 * (c + 1)) (by omega) (by omega) ?_
        exact V_at (ih (c + 1) g R2 e2 (by rw [e1]; exact hL) (by omega) (by rw [e1]; omega)) ⟨rfl, rfl, rfl, rfl, trivial⟩
      refine V_aload_n 28 dL_law_27 rfl rfl ?_
      refine V_iload_n 29 dL_law_28 rfl rfl ?_
      refine V_sld 30 dL_law_29 rfl (vp_in_nI (show 8 * c < LN h by omega) (by show LN h < 2 ^ 31; omega)) ?_
      refine V_bipush (v := 31) 32 dL_law_30 rfl (by decide) ?_
      refine V_iand 33 dL_law_32 rfl ?_
      generalize qg_i h 0 0 (nI (8 * c)).toNatClampNeg &&& 31 = x
      by_cases z : x.toInt < ((0 : Nat) : Int) ∨ ((0 + 23 - 1 : Nat) : Int) < x.toInt
      · refine V_tabOut 1230 dL_law_33 z rfl ?_
        exact V_wide (by omega) (by omega) (K h (R.up (Nat.le_succ _)) rfl h0)
      · obtain ⟨j, hj, rfl⟩ : ∃ j : Nat, j < 23 ∧ x = nI (0 + j) := qx_sw 0 23 (by decide) (by decide) z
        rcases (show j = 0 ∨ j = 1 ∨ j = 2 ∨ j = 3 ∨ j = 4 ∨ j = 5 ∨ j = 6 ∨ j = 7 ∨ j = 8 ∨ j = 9 ∨ j = 10 ∨ j = 11 ∨ j = 12 ∨ j = 13 ∨ j = 14 ∨ j = 15 ∨ j = 16 ∨ j = 17 ∨ j = 18 ∨ j = 19 ∨ j = 20 ∨ j = 21 ∨ j = 22 by omega) with rfl | rfl | rfl | rfl | rfl | rfl | rfl | rfl | rfl | rfl | rfl | rfl | rfl | rfl | rfl | rfl | rfl | rfl | rfl | rfl | rfl | rfl | rfl
        · refine V_tabIn (x := nI (0 + 0)) 140 dL_law_33 (by decide) (by decide) rfl rfl ?_
          exact lc_0 R Z (by omega) h0 hL hi (by omega) (by omega) K
        · refine V_tabIn (x := nI (0 + 1)) 173 dL_law_33 (by decide) (by decide) rfl rfl ?_
          exact lc_1 R Z (by omega) h0 hL hi (by omega) (by omega) K
        · refine V_tabIn (x := nI (0 + 2)) 196 dL_law_33 (by decide) (by decide) rfl rfl ?_
          exact lc_2 R Z (by omega) h0 hL hi (by omega) (by omega) K
        · refine V_tabIn (x := nI (0 + 3)) 291 dL_law_33 (by decide) (by decide) rfl rfl ?_
          exact lc_3 R Z (by omega) h0 hL hi (by omega) (by omega) K
        · refine V_tabIn (x := nI (0 + 4)) 334 dL_law_33 (by decide) (by decide) rfl rfl ?_
          exact lc_4 R Z (by omega) h0 hL hi (by omega) (by omega) K
        · refine V_tabIn (x := nI (0 + 5)) 377 dL_law_33 (by decide) (by decide) rfl rfl ?_
          exact lc_5 R Z (by omega) h0 hL hi (by omega) (by omega) K
        · refine V_tabIn (x := nI (0 + 6)) 450 dL_law_33 (by decide) (by decide) rfl rfl ?_
          exact lc_6 R Z (by omega) h0 hL hi (by omega) (by omega) K
        · refine V_tabIn (x := nI (0 + 7)) 473 dL_law_33 (by decide) (by decide) rfl rfl ?_
          exact lc_7 R Z (by omega) h0 hL hi (by omega) (by omega) K
        · refine V_tabIn (x := nI (0 + 8)) 526 dL_law_33 (by decide) (by decide) rfl rfl ?_
          exact lc_8 R Z (by omega) h0 hL hi (by omega) (by omega) K
        · refine V_tabIn (x := nI (0 + 9)) 633 dL_law_33 (by decide) (by decide) rfl rfl ?_
          exact lc_9 R Z (by omega) h0 hL hi (by omega) (by omega) K
        · refine V_tabIn (x := nI (0 + 10)) 676 dL_law_33 (by decide) (by decide) rfl rfl ?_
          exact lc_10 R Z (by omega) h0 hL hi (by omega) (by omega) K
        · refine V_tabIn (x := nI (0 + 11)) 750 dL_law_33 (by decide) (by decide) rfl rfl ?_
          exact lc_11 R Z (by omega) h0 hL hi (by omega) (by omega) K
        · refine V_tabIn (x := nI (0 + 12)) 833 dL_law_33 (by decide) (by decide) rfl rfl ?_
          exact lc_12 R Z (by omega) h0 hL hi (by omega) (by omega) K
        · refine V_tabIn (x := nI (0 + 13)) 906 dL_law_33 (by decide) (by decide) rfl rfl ?_
          exact lc_13 R Z (by omega) h0 hL hi (by omega) (by omega) K
        · refine V_tabIn (x := nI (0 + 14)) 929 dL_law_33 (by decide) (by decide) rfl rfl ?_
          exact lc_14 R Z (by omega) h0 hL hi (by omega) (by omega) K
        · refine V_tabIn (x := nI (0 + 15)) 973 dL_law_33 (by decide) (by decide) rfl rfl ?_
          exact lc_15 R Z (by omega) h0 hL hi (by omega) (by omega) K
        · refine V_tabIn (x := nI (0 + 16)) 1006 dL_law_33 (by decide) (by decide) rfl rfl ?_
          exact lc_16 R Z (by omega) h0 hL hi (by omega) (by omega) K
        · refine V_tabIn (x := nI (0 + 17)) 1039 dL_law_33 (by decide) (by decide) rfl rfl ?_
          exact lc_17 R Z (by omega) h0 hL hi (by omega) (by omega) K
        · refine V_tabIn (x := nI (0 + 18)) 1072 dL_law_33 (by decide) (by decide) rfl rfl ?_
          exact lc_18 R Z (by omega) h0 hL hi (by omega) (by omega) K
        · refine V_tabIn (x := nI (0 + 19)) 1116 dL_law_33 (by decide) (by decide) rfl rfl ?_
          exact lc_19 R Z (by omega) h0 hL hi (by omega) (by omega) K
        · refine V_tabIn (x := nI (0 + 20)) 1150 dL_law_33 (by decide) (by decide) rfl rfl ?_
          exact lc_20 R Z (by omega) h0 hL hi (by omega) (by omega) K
        · refine V_tabIn (x := nI (0 + 21)) 1184 dL_law_33 (by decide) (by decide) rfl rfl ?_
          exact lc_21 R Z (by omega) h0 hL hi (by omega) (by omega) K
        · refine V_tabIn (x := nI (0 + 22)) 1207 dL_law_33 (by decide) (by decide) rfl rfl ?_
          exact lc_22 R Z (by omega) h0 hL hi (by omega) (by omega) K
end LW
