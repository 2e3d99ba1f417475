/-! The reference: tiers, parts, lines, invoices -/
section RL
variable {h : qH}
/-- do the lasts rise: all but the last tier, with the j-th altered -/
def m_rise (h : qH) (p j : Nat) (last : Int64) (k : Nat) : Prop := ¬ (if k = j then last else qg_l h 46 0 (p + 3 * k + 3)) ≤ (if k = j + 1 then last else qg_l h 46 0 (p + 3 * k))
def m_tier (h : qH) (p j th : Nat) (last : Int64) (pr fe : Int32) : qH := qs_l (qs_l (qs_l (qs_l h 46 0 (p + 2) (nI th).toInt64) 46 0 (p + 3 + 3 * j) last) 46 0 (p + 4 + 3 * j) pr.toInt64) 46 0 (p + 5 + 3 * j) fe.toInt64
theorem lp_X8_tier {p j th : Nat} {last : Int64} {pr fe : Int32} (hS : SHR h) (hp : p + 18 ≤ 4752) (hj : j < 5) (hth : 1 ≤ th ∧ th ≤ 5) {n0 : Nat → Nat} {Post : Option qV → qH → Prop} (hB : (¬ ∀ k, 1 ≤ k → k + 1 < th → m_rise h p j last k) → Post (some (.inl (-2))) h) (hG : (∀ k, 1 ≤ k → k + 1 < th → m_rise h p j last k) → Post (some (.inl 0)) (m_tier h p j th last pr fe)) :
    ∀ (m k : Nat), 1 ≤ k → k + m = th + 5 → (∀ k', 1 ≤ k' → k' < k → k' + 1 < th → m_rise h p j last k') → Vw yX8_tier cX8_tier 17 ((some .int)) (qrm 1 21 0 0) 0 0 n0 Post 126 [(0, .inr (.inr (some (33, 0)))), (3, .inl (nI j)), (4, .inr (.inl last)), (6, .inl pr), (7, .inl fe), (9, .inl (nI p)), (11, .inl (nI th)), (12, .inl (nI k))] [] h 0 0 := by
  have e2 : nI p + 2 = nI (p + 2) := nI_add p 2
  have f3 : nI p + 3 + 3 * nI j = nI (p + 3 + 3 * j) := by rw [show (3 : Int32) = nI 3 from rfl, nI_add, pk_mul, nI_add]
  have f4 : nI p + 4 + 3 * nI j = nI (p + 4 + 3 * j) := by rw [show (3 : Int32) = nI 3 from rfl, show (4 : Int32) = nI 4 from rfl, nI_add, pk_mul, nI_add]
  have f5 : nI p + 5 + 3 * nI j = nI (p + 5 + 3 * j) := by rw [show (3 : Int32) = nI 3 from rfl, show (5 : Int32) = nI 5 from rfl, nI_add, pk_mul, nI_add]
  have et : nI th - 1 = nI (th - 1) := by
    obtain ⟨q, rfl⟩ : ∃ q, th = q + 1 := ⟨th - 1, by omega⟩
    exact nI_pred q
  intro m
  induction m with
  | zero =>
    intro k hk1 hk hno
    refine V_iload 128 dX8_tier_126 rfl rfl ?_
    refine V_iload 130 dX8_tier_128 rfl rfl ?_
    refine V_iconst (v := 1) 131 dX8_tier_130 rfl (by decide) ?_
    refine V_isub 132 dX8_tier_131 rfl ?_
    rw [et]
    refine V_icmp_ge 206 135 dX8_tier_132 rfl rfl (fun c_132 => ?_) (fun c_132 => ?_)
    · skip
      refine V_aload_n 207 dX8_tier_206 rfl rfl ?_
      refine V_getR 210 8 16 fl_X8_131 dX8_tier_207 rfl rfl (by decide) (Or.inr ⟨_, rfl⟩) (by decide) (sr_16 hS) ?_
      refine V_iload 212 dX8_tier_210 rfl rfl ?_
      refine V_iconst (v := 2) 213 dX8_tier_212 rfl (by decide) ?_
      refine V_iadd 214 dX8_tier_213 rfl ?_
      refine V_iload 216 dX8_tier_214 rfl rfl ?_
      refine V_i2l 217 dX8_tier_216 rfl ?_
      refine V_lastN 218 (p + 2) dX8_tier_217 rfl rfl (by decide) e2 (show _ < 4752 by omega) (by decide) ?_
      refine V_aload_n 219 dX8_tier_218 rfl rfl ?_
      refine V_getR 222 8 16 fl_X8_131 dX8_tier_219 rfl rfl (by decide) (Or.inr ⟨_, rfl⟩) (by decide) (sr_16 hS) ?_
      refine V_iload 224 dX8_tier_222 rfl rfl ?_
      refine V_iconst (v := 3) 225 dX8_tier_224 rfl (by decide) ?_
      refine V_iadd 226 dX8_tier_225 rfl ?_
      refine V_iconst (v := 3) 227 dX8_tier_226 rfl (by decide) ?_
      refine V_iload_n 228 dX8_tier_227 rfl rfl ?_
      refine V_imul 229 dX8_tier_228 rfl ?_
      refine V_iadd 230 dX8_tier_229 rfl ?_
      refine V_lload 232 dX8_tier_230 rfl rfl ?_
      refine V_lastN 233 (p + 3 + 3 * j) dX8_tier_232 rfl rfl (by decide) f3 (show _ < 4752 by omega) (by decide) ?_
      refine V_aload_n 234 dX8_tier_233 rfl rfl ?_
      refine V_getR 237 8 16 fl_X8_131 dX8_tier_234 rfl rfl (by decide) (Or.inr ⟨_, rfl⟩) (by decide) (sr_16 hS) ?_
      refine V_iload 239 dX8_tier_237 rfl rfl ?_
      refine V_iconst (v := 4) 240 dX8_tier_239 rfl (by decide) ?_
      refine V_iadd 241 dX8_tier_240 rfl ?_
      refine V_iconst (v := 3) 242 dX8_tier_241 rfl (by decide) ?_
      refine V_iload_n 243 dX8_tier_242 rfl rfl ?_
      refine V_imul 244 dX8_tier_243 rfl ?_
      refine V_iadd 245 dX8_tier_244 rfl ?_
      refine V_iload 247 dX8_tier_245 rfl rfl ?_
      refine V_i2l 248 dX8_tier_247 rfl ?_
      refine V_lastN 249 (p + 4 + 3 * j) dX8_tier_248 rfl rfl (by decide) f4 (show _ < 4752 by omega) (by decide) ?_
      refine V_aload_n 250 dX8_tier_249 rfl rfl ?_
      refine V_getR 253 8 16 fl_X8_131 dX8_tier_250 rfl rfl (by decide) (Or.inr ⟨_, rfl⟩) (by decide) (sr_16 hS) ?_
      refine V_iload 255 dX8_tier_253 rfl rfl ?_
      refine V_iconst (v := 5) 256 dX8_tier_255 rfl (by decide) ?_
      refine V_iadd 257 dX8_tier_256 rfl ?_
      refine V_iconst (v := 3) 258 dX8_tier_257 rfl (by decide) ?_
      refine V_iload_n 259 dX8_tier_258 rfl rfl ?_
      refine V_imul 260 dX8_tier_259 rfl ?_
      refine V_iadd 261 dX8_tier_260 rfl ?_
      refine V_iload 263 dX8_tier_261 rfl rfl ?_
      refine V_i2l 264 dX8_tier_263 rfl ?_
      refine V_lastN 265 (p + 5 + 3 * j) dX8_tier_264 rfl rfl (by decide) f5 (show _ < 4752 by omega) (by decide) ?_
      refine V_iconst (v := 0) 266 dX8_tier_265 rfl (by decide) ?_
      refine V_iret dX8_tier_266 rfl rfl ?_ (by first | exact Nat.le_refl _ | decide | omega) (by first | exact Nat.le_refl _ | decide | omega)
      exact hG (fun k' q1 q2 => hno k' q1 (by omega) q2)
    · skip
      exact absurd (nI_le (show th - 1 ≤ k by omega) (by omega)) c_132
  | succ m ih =>
    intro k hk1 hk hno
    have g1 : nI p + 3 * nI k = nI (p + 3 * k) := by rw [show (3 : Int32) = nI 3 from rfl, pk_mul, nI_add]
    have g2 : nI p + 3 * nI k + 3 = nI (p + 3 * k + 3) := by rw [g1, show (3 : Int32) = nI 3 from rfl, nI_add]
    have ek : nI k - 1 = nI (k - 1) := by
      obtain ⟨q, rfl⟩ : ∃ q, k = q + 1 := ⟨k - 1, by omega⟩
      exact nI_pred q
    have i1 : nI (k - 1) = nI j ↔ k = j + 1 := by
      rw [nI_eq (by omega) (by omega)]
      omega
    have i2 : nI k = nI j ↔ k = j := nI_eq (by omega) (by omega)
    have i3 : nI (th - 1) ≤ nI k ↔ th - 1 ≤ k := nI_leI (by omega) (by omega)
    refine V_iload 128 dX8_tier_126 rfl rfl ?_
    refine V_iload 130 dX8_tier_128 rfl rfl ?_
    refine V_iconst (v := 1) 131 dX8_tier_130 rfl (by decide) ?_
    refine V_isub 132 dX8_tier_131 rfl ?_
    rw [et]
    refine V_icmp_ge 206 135 dX8_tier_132 rfl rfl (fun c_132 => ?_) (fun c_132 => ?_)
    · skip
      refine V_aload_n 207 dX8_tier_206 rfl rfl ?_
      refine V_getR 210 8 16 fl_X8_131 dX8_tier_207 rfl rfl (by decide) (Or.inr ⟨_, rfl⟩) (by decide) (sr_16 hS) ?_
      refine V_iload 212 dX8_tier_210 rfl rfl ?_
      refine V_iconst (v := 2) 213 dX8_tier_212 rfl (by decide) ?_
      refine V_iadd 214 dX8_tier_213 rfl ?_
      refine V_iload 216 dX8_tier_214 rfl rfl ?_
      refine V_i2l 217 dX8_tier_216 rfl ?_
      refine V_lastN 218 (p + 2) dX8_tier_217 rfl rfl (by decide) e2 (show _ < 4752 by omega) (by decide) ?_
      refine V_aload_n 219 dX8_tier_218 rfl rfl ?_
      refine V_getR 222 8 16 fl_X8_131 dX8_tier_219 rfl rfl (by decide) (Or.inr ⟨_, rfl⟩) (by decide) (sr_16 hS) ?_
      refine V_iload 224 dX8_tier_222 rfl rfl ?_
      refine V_iconst (v := 3) 225 dX8_tier_224 rfl (by decide) ?_
      refine V_iadd 226 dX8_tier_225 rfl ?_
      refine V_iconst (v := 3) 227 dX8_tier_226 rfl (by decide) ?_
      refine V_iload_n 228 dX8_tier_227 rfl rfl ?_
      refine V_imul 229 dX8_tier_228 rfl ?_
      refine V_iadd 230 dX8_tier_229 rfl ?_
      refine V_lload 232 dX8_tier_230 rfl rfl ?_
      refine V_lastN 233 (p + 3 + 3 * j) dX8_tier_232 rfl rfl (by decide) f3 (show _ < 4752 by omega) (by decide) ?_
      refine V_aload_n 234 dX8_tier_233 rfl rfl ?_
      refine V_getR 237 8 16 fl_X8_131 dX8_tier_234 rfl rfl (by decide) (Or.inr ⟨_, rfl⟩) (by decide) (sr_16 hS) ?_
      refine V_iload 239 dX8_tier_237 rfl rfl ?_
      refine V_iconst (v := 4) 240 dX8_tier_239 rfl (by decide) ?_
      refine V_iadd 241 dX8_tier_240 rfl ?_
      refine V_iconst (v := 3) 242 dX8_tier_241 rfl (by decide) ?_
      refine V_iload_n 243 dX8_tier_242 rfl rfl ?_
      refine V_imul 244 dX8_tier_243 rfl ?_
      refine V_iadd 245 dX8_tier_244 rfl ?_
      refine V_iload 247 dX8_tier_245 rfl rfl ?_
      refine V_i2l 248 dX8_tier_247 rfl ?_
      refine V_lastN 249 (p + 4 + 3 * j) dX8_tier_248 rfl rfl (by decide) f4 (show _ < 4752 by omega) (by decide) ?_
      refine V_aload_n 250 dX8_tier_249 rfl rfl ?_
      refine V_getR 253 8 16 fl_X8_131 dX8_tier_250 rfl rfl (by decide) (Or.inr ⟨_, rfl⟩) (by decide) (sr_16 hS) ?_
      refine V_iload 255 dX8_tier_253 rfl rfl ?_
      refine V_iconst (v := 5) 256 dX8_tier_255 rfl (by decide) ?_
      refine V_iadd 257 dX8_tier_256 rfl ?_
      refine V_iconst (v := 3) 258 dX8_tier_257 rfl (by decide) ?_
      refine V_iload_n 259 dX8_tier_258 rfl rfl ?_
      refine V_imul 260 dX8_tier_259 rfl ?_
      refine V_iadd 261 dX8_tier_260 rfl ?_
      refine V_iload 263 dX8_tier_261 rfl rfl ?_
      refine V_i2l 264 dX8_tier_263 rfl ?_
      refine V_lastN 265 (p + 5 + 3 * j) dX8_tier_264 rfl rfl (by decide) f5 (show _ < 4752 by omega) (by decide) ?_
      refine V_iconst (v := 0) 266 dX8_tier_265 rfl (by decide) ?_
      refine V_iret dX8_tier_266 rfl rfl ?_ (by first | exact Nat.le_refl _ | decide | omega) (by first | exact Nat.le_refl _ | decide | omega)
      exact hG (fun k' q1 q2 => hno k' q1 (by have := i3.mp c_132; omega) q2)
    · skip
      have hlt : ¬ th - 1 ≤ k := fun q => c_132 (i3.mpr q)
      refine V_iload 137 dX8_tier_135 rfl rfl ?_
      refine V_iconst (v := 1) 138 dX8_tier_137 rfl (by decide) ?_
      refine V_isub 139 dX8_tier_138 rfl ?_
      refine V_iload_n 140 dX8_tier_139 rfl rfl ?_
      rw [ek]
      refine V_icmp_ne 148 143 dX8_tier_140 rfl rfl (fun c_140 => ?_) (fun c_140 => ?_)
      · skip
        refine V_aload_n 149 dX8_tier_148 rfl rfl ?_
        refine V_getR 152 8 16 fl_X8_131 dX8_tier_149 rfl rfl (by decide) (Or.inr ⟨_, rfl⟩) (by decide) (sr_16 hS) ?_
        refine V_iload 154 dX8_tier_152 rfl rfl ?_
        refine V_iconst (v := 3) 155 dX8_tier_154 rfl (by decide) ?_
        refine V_iload 157 dX8_tier_155 rfl rfl ?_
        refine V_imul 158 dX8_tier_157 rfl ?_
        refine V_iadd 159 dX8_tier_158 rfl ?_
        refine V_laldN 160 (p + 3 * k) dX8_tier_159 rfl rfl (by decide) g1 (show _ < 4752 by omega) (by decide) ?_
        refine V_lstore 162 dX8_tier_160 rfl (by decide) ?_
        refine V_iload 164 dX8_tier_162 rfl rfl ?_
        refine V_iload_n 165 dX8_tier_164 rfl rfl ?_
        refine V_icmp_ne 173 168 dX8_tier_165 rfl rfl (fun c_165 => ?_) (fun c_165 => ?_)
        · skip
          refine V_aload_n 174 dX8_tier_173 rfl rfl ?_
          refine V_getR 177 8 16 fl_X8_131 dX8_tier_174 rfl rfl (by decide) (Or.inr ⟨_, rfl⟩) (by decide) (sr_16 hS) ?_
          refine V_iload 179 dX8_tier_177 rfl rfl ?_
          refine V_iconst (v := 3) 180 dX8_tier_179 rfl (by decide) ?_
          refine V_iload 182 dX8_tier_180 rfl rfl ?_
          refine V_imul 183 dX8_tier_182 rfl ?_
          refine V_iadd 184 dX8_tier_183 rfl ?_
          refine V_iconst (v := 3) 185 dX8_tier_184 rfl (by decide) ?_
          refine V_iadd 186 dX8_tier_185 rfl ?_
          refine V_laldN 187 (p + 3 * k + 3) dX8_tier_186 rfl rfl (by decide) g2 (show _ < 4752 by omega) (by decide) ?_
          refine V_lstore 189 dX8_tier_187 rfl (by decide) ?_
          refine V_lload 191 dX8_tier_189 rfl rfl ?_
          refine V_lload 193 dX8_tier_191 rfl rfl ?_
          refine V_lcmp 194 dX8_tier_193 rfl ?_
          refine V_if_gt 200 197 dX8_tier_194 rfl rfl (fun c_194 => ?_) (fun c_194 => ?_)
          · (rw [lg_gt] at c_194)
            refine V_iincN 203 dX8_tier_200 rfl rfl (by decide) ?_
            refine V_goto 126 dX8_tier_203 rfl ?_
            refine V_at (ih (k + 1) (by omega) (by omega) (fun k' q1 q2 q3 => ?_)) ⟨rfl, rfl, rfl, rfl, rfl, rfl, rfl, rfl, trivial⟩
            rcases Nat.lt_or_ge k' k with z | z
            · exact hno k' q1 z q3
            · have : k' = k := by omega
              subst this
              unfold m_rise
              grind
          · (rw [lg_gt] at c_194)
            refine V_bipush (v := (-2)) 199 dX8_tier_197 rfl (by decide) ?_
            refine V_iret dX8_tier_199 rfl rfl ?_ (by first | exact Nat.le_refl _ | decide | omega) (by first | exact Nat.le_refl _ | decide | omega)
            refine hB (fun q => ?_)
            have := q k hk1 (by omega)
            unfold m_rise at this
            grind
        · skip
          refine V_lload 170 dX8_tier_168 rfl rfl ?_
          refine V_goto 187 dX8_tier_170 rfl ?_
          refine V_lstore 189 dX8_tier_187 rfl (by decide) ?_
          refine V_lload 191 dX8_tier_189 rfl rfl ?_
          refine V_lload 193 dX8_tier_191 rfl rfl ?_
          refine V_lcmp 194 dX8_tier_193 rfl ?_
          refine V_if_gt 200 197 dX8_tier_194 rfl rfl (fun c_194 => ?_) (fun c_194 => ?_)
          · (rw [lg_gt] at c_194)
            refine V_iincN 203 dX8_tier_200 rfl rfl (by decide) ?_
            refine V_goto 126 dX8_tier_203 rfl ?_
            refine V_at (ih (k + 1) (by omega) (by omega) (fun k' q1 q2 q3 => ?_)) ⟨rfl, rfl, rfl, rfl, rfl, rfl, rfl, rfl, trivial⟩
            rcases Nat.lt_or_ge k' k with z | z
            · exact hno k' q1 z q3
            · have : k' = k := by omega
              subst this
              unfold m_rise
              grind
          · (rw [lg_gt] at c_194)
            refine V_bipush (v := (-2)) 199 dX8_tier_197 rfl (by decide) ?_
            refine V_iret dX8_tier_199 rfl rfl ?_ (by first | exact Nat.le_refl _ | decide | omega) (by first | exact Nat.le_refl _ | decide | omega)
            refine hB (fun q => ?_)
            have := q k hk1 (by omega)
            unfold m_rise at this
            grind
      · skip
        refine V_lload 145 dX8_tier_143 rfl rfl ?_
        refine V_goto 160 dX8_tier_145 rfl ?_
        refine V_lstore 162 dX8_tier_160 rfl (by decide) ?_
        refine V_iload 164 dX8_tier_162 rfl rfl ?_
        refine V_iload_n 165 dX8_tier_164 rfl rfl ?_
        refine V_icmp_ne 173 168 dX8_tier_165 rfl rfl (fun c_165 => ?_) (fun c_165 => ?_)
        · skip
          refine V_aload_n 174 dX8_tier_173 rfl rfl ?_
          refine V_getR 177 8 16 fl_X8_131 dX8_tier_174 rfl rfl (by decide) (Or.inr ⟨_, rfl⟩) (by decide) (sr_16 hS) ?_
          refine V_iload 179 dX8_tier_177 rfl rfl ?_
          refine V_iconst (v := 3) 180 dX8_tier_179 rfl (by decide) ?_
          refine V_iload 182 dX8_tier_180 rfl rfl ?_
          refine V_imul 183 dX8_tier_182 rfl ?_
          refine V_iadd 184 dX8_tier_183 rfl ?_
          refine V_iconst (v := 3) 185 dX8_tier_184 rfl (by decide) ?_
          refine V_iadd 186 dX8_tier_185 rfl ?_
          refine V_laldN 187 (p + 3 * k + 3) dX8_tier_186 rfl rfl (by decide) g2 (show _ < 4752 by omega) (by decide) ?_
          refine V_lstore 189 dX8_tier_187 rfl (by decide) ?_
          refine V_lload 191 dX8_tier_189 rfl rfl ?_
          refine V_lload 193 dX8_tier_191 rfl rfl ?_
          refine V_lcmp 194 dX8_tier_193 rfl ?_
          refine V_if_gt 200 197 dX8_tier_194 rfl rfl (fun c_194 => ?_) (fun c_194 => ?_)
          · (rw [lg_gt] at c_194)
            refine V_iincN 203 dX8_tier_200 rfl rfl (by decide) ?_
            refine V_goto 126 dX8_tier_203 rfl ?_
            refine V_at (ih (k + 1) (by omega) (by omega) (fun k' q1 q2 q3 => ?_)) ⟨rfl, rfl, rfl, rfl, rfl, rfl, rfl, rfl, trivial⟩
            rcases Nat.lt_or_ge k' k with z | z
            · exact hno k' q1 z q3
            · have : k' = k := by omega
              subst this
              unfold m_rise
              grind
          · (rw [lg_gt] at c_194)
            refine V_bipush (v := (-2)) 199 dX8_tier_197 rfl (by decide) ?_
            refine V_iret dX8_tier_199 rfl rfl ?_ (by first | exact Nat.le_refl _ | decide | omega) (by first | exact Nat.le_refl _ | decide | omega)
            refine hB (fun q => ?_)
            have := q k hk1 (by omega)
            unfold m_rise at this
            grind
        · skip
          refine V_lload 170 dX8_tier_168 rfl rfl ?_
          refine V_goto 187 dX8_tier_170 rfl ?_
          refine V_lstore 189 dX8_tier_187 rfl (by decide) ?_
          refine V_lload 191 dX8_tier_189 rfl rfl ?_
          refine V_lload 193 dX8_tier_191 rfl rfl ?_
          refine V_lcmp 194 dX8_tier_193 rfl ?_
          refine V_if_gt 200 197 dX8_tier_194 rfl rfl (fun c_194 => ?_) (fun c_194 => ?_)
          · (rw [lg_gt] at c_194)
            refine V_iincN 203 dX8_tier_200 rfl rfl (by decide) ?_
            refine V_goto 126 dX8_tier_203 rfl ?_
            refine V_at (ih (k + 1) (by omega) (by omega) (fun k' q1 q2 q3 => ?_)) ⟨rfl, rfl, rfl, rfl, rfl, rfl, rfl, rfl, trivial⟩
            rcases Nat.lt_or_ge k' k with z | z
            · exact hno k' q1 z q3
            · have : k' = k := by omega
              subst this
              unfold m_rise
              grind
          · (rw [lg_gt] at c_194)
            refine V_bipush (v := (-2)) 199 dX8_tier_197 rfl (by decide) ?_
            refine V_iret dX8_tier_199 rfl rfl ?_ (by first | exact Nat.le_refl _ | decide | omega) (by first | exact Nat.le_refl _ | decide | omega)
            refine hB (fun q => ?_)
            have := q k hk1 (by omega)
            unfold m_rise at this
            grind
theorem ct_X8_tier_bad1 {t r j pr fe : Int32} {last : Int64} (hbad : ¬ ((0 ≤ t ∧ t < 6) ∧ (0 ≤ r ∧ r < 4) ∧ (1 ≤ last ∧ last ≤ 10000000000) ∧ (0 ≤ pr ∧ pr ≤ 1000000) ∧ (0 ≤ fe ∧ fe ≤ 1000000000))) : qM yX8_tier cX8_tier 17 ((some .int)) 1 21 0 0 [.inr (.inr (some (33, 0))), .inl t, .inl r, .inl j, .inr (.inl last), .inl pr, .inl fe] h (pI fun x h' => x = -2 ∧ h' = h) := by
  refine qM.of (plainFor_of_name (by decide)) (Nat.le_of_ble_eq_true rfl) ?_
  refine V_iload_n 1 dX8_tier_0 rfl rfl ?_
  refine V_cS1i 4 (ct_X8_isTenant _ _) cs_X8_7 dX8_tier_1 rfl ⟨Nat.le_of_ble_eq_true rfl, Nat.le_of_ble_eq_true rfl⟩ (Nat.le_of_ble_eq_true rfl) ⟨Nat.le_of_ble_eq_true rfl, Nat.le_of_ble_eq_true rfl⟩ (fun x h' hx hle => ?_)
  obtain ⟨rfl, rfl⟩ := hx
  refine V_if_eq 58 7 dX8_tier_4 rfl rfl (fun c_4 => ?_) (fun c_4 => ?_)
  · skip
    refine V_iconst (v := 0) 59 dX8_tier_58 rfl (by decide) ?_
    refine V_istore 61 dX8_tier_59 rfl (by decide) ?_
    refine V_iload 63 dX8_tier_61 rfl rfl ?_
    refine V_if_ne 69 66 dX8_tier_63 rfl rfl (fun c_63 => ?_) (fun c_63 => ?_)
    · skip
      exact absurd rfl c_63
    · skip
      refine V_bipush (v := (-2)) 68 dX8_tier_66 rfl (by decide) ?_
      refine V_iret dX8_tier_68 rfl rfl ⟨_, rfl, ?_⟩ (by first | exact Nat.le_refl _ | decide | omega) (by first | exact Nat.le_refl _ | decide | omega)
      exact ⟨rfl, rfl⟩
  · skip
    refine V_iload_n 8 dX8_tier_7 rfl rfl ?_
    refine V_cS1i 11 (ct_X8_isResource _ _) cs_X8_28 dX8_tier_8 rfl ⟨Nat.le_of_ble_eq_true rfl, Nat.le_of_ble_eq_true rfl⟩ (Nat.le_of_ble_eq_true rfl) ⟨Nat.le_of_ble_eq_true rfl, Nat.le_of_ble_eq_true rfl⟩ (fun x h' hx hle => ?_)
    obtain ⟨rfl, rfl⟩ := hx
    refine V_if_eq 58 14 dX8_tier_11 rfl rfl (fun c_11 => ?_) (fun c_11 => ?_)
    · skip
      refine V_iconst (v := 0) 59 dX8_tier_58 rfl (by decide) ?_
      refine V_istore 61 dX8_tier_59 rfl (by decide) ?_
      refine V_iload 63 dX8_tier_61 rfl rfl ?_
      refine V_if_ne 69 66 dX8_tier_63 rfl rfl (fun c_63 => ?_) (fun c_63 => ?_)
      · skip
        exact absurd rfl c_63
      · skip
        refine V_bipush (v := (-2)) 68 dX8_tier_66 rfl (by decide) ?_
        refine V_iret dX8_tier_68 rfl rfl ⟨_, rfl, ?_⟩ (by first | exact Nat.le_refl _ | decide | omega) (by first | exact Nat.le_refl _ | decide | omega)
        exact ⟨rfl, rfl⟩
    · skip
      refine V_lload 16 dX8_tier_14 rfl rfl ?_
      refine V_lconst (v := 1) 17 dX8_tier_16 rfl (by decide) ?_
      refine V_lcmp 18 dX8_tier_17 rfl ?_
      refine V_if_lt 58 21 dX8_tier_18 rfl rfl (fun c_18 => ?_) (fun c_18 => ?_)
      · (rw [lg_lt] at c_18)
        refine V_iconst (v := 0) 59 dX8_tier_58 rfl (by decide) ?_
        refine V_istore 61 dX8_tier_59 rfl (by decide) ?_
        refine V_iload 63 dX8_tier_61 rfl rfl ?_
        refine V_if_ne 69 66 dX8_tier_63 rfl rfl (fun c_63 => ?_) (fun c_63 => ?_)
        · skip
          exact absurd rfl c_63
        · skip
          refine V_bipush (v := (-2)) 68 dX8_tier_66 rfl (by decide) ?_
          refine V_iret dX8_tier_68 rfl rfl ⟨_, rfl, ?_⟩ (by first | exact Nat.le_refl _ | decide | omega) (by first | exact Nat.le_refl _ | decide | omega)
          exact ⟨rfl, rfl⟩
      · (rw [lg_lt] at c_18)
        refine V_lload 23 dX8_tier_21 rfl rfl ?_
        refine V_ldc2 (v := 10000000000) 26 dX8_tier_23 rfl wc_X8_177 ?_
        refine V_lcmp 27 dX8_tier_26 rfl ?_
        refine V_if_gt 58 30 dX8_tier_27 rfl rfl (fun c_27 => ?_) (fun c_27 => ?_)
        · (rw [lg_gt] at c_27)
          refine V_iconst (v := 0) 59 dX8_tier_58 rfl (by decide) ?_
          refine V_istore 61 dX8_tier_59 rfl (by decide) ?_
          refine V_iload 63 dX8_tier_61 rfl rfl ?_
          refine V_if_ne 69 66 dX8_tier_63 rfl rfl (fun c_63 => ?_) (fun c_63 => ?_)
          · skip
            exact absurd rfl c_63
          · skip
            refine V_bipush (v := (-2)) 68 dX8_tier_66 rfl (by decide) ?_
            refine V_iret dX8_tier_68 rfl rfl ⟨_, rfl, ?_⟩ (by first | exact Nat.le_refl _ | decide | omega) (by first | exact Nat.le_refl _ | decide | omega)
            exact ⟨rfl, rfl⟩
        · (rw [lg_gt] at c_27)
          refine V_iload 32 dX8_tier_30 rfl rfl ?_
          refine V_if_lt 58 35 dX8_tier_32 rfl rfl (fun c_32 => ?_) (fun c_32 => ?_)
          · skip
            refine V_iconst (v := 0) 59 dX8_tier_58 rfl (by decide) ?_
            refine V_istore 61 dX8_tier_59 rfl (by decide) ?_
            refine V_iload 63 dX8_tier_61 rfl rfl ?_
            refine V_if_ne 69 66 dX8_tier_63 rfl rfl (fun c_63 => ?_) (fun c_63 => ?_)
            · skip
              exact absurd rfl c_63
            · skip
              refine V_bipush (v := (-2)) 68 dX8_tier_66 rfl (by decide) ?_
              refine V_iret dX8_tier_68 rfl rfl ⟨_, rfl, ?_⟩ (by first | exact Nat.le_refl _ | decide | omega) (by first | exact Nat.le_refl _ | decide | omega)
              exact ⟨rfl, rfl⟩
          · skip
            refine V_iload 37 dX8_tier_35 rfl rfl ?_
            refine V_ldc (v := 1000000) 39 dX8_tier_37 rfl wc_X8_63 ?_
            refine V_icmp_gt 58 42 dX8_tier_39 rfl rfl (fun c_39 => ?_) (fun c_39 => ?_)
            · skip
              refine V_iconst (v := 0) 59 dX8_tier_58 rfl (by decide) ?_
              refine V_istore 61 dX8_tier_59 rfl (by decide) ?_
              refine V_iload 63 dX8_tier_61 rfl rfl ?_
              refine V_if_ne 69 66 dX8_tier_63 rfl rfl (fun c_63 => ?_) (fun c_63 => ?_)
              · skip
                exact absurd rfl c_63
              · skip
                refine V_bipush (v := (-2)) 68 dX8_tier_66 rfl (by decide) ?_
                refine V_iret dX8_tier_68 rfl rfl ⟨_, rfl, ?_⟩ (by first | exact Nat.le_refl _ | decide | omega) (by first | exact Nat.le_refl _ | decide | omega)
                exact ⟨rfl, rfl⟩
            · skip
              refine V_iload 44 dX8_tier_42 rfl rfl ?_
              refine V_if_lt 58 47 dX8_tier_44 rfl rfl (fun c_44 => ?_) (fun c_44 => ?_)
              · skip
                refine V_iconst (v := 0) 59 dX8_tier_58 rfl (by decide) ?_
                refine V_istore 61 dX8_tier_59 rfl (by decide) ?_
                refine V_iload 63 dX8_tier_61 rfl rfl ?_
                refine V_if_ne 69 66 dX8_tier_63 rfl rfl (fun c_63 => ?_) (fun c_63 => ?_)
                · skip
                  exact absurd rfl c_63
                · skip
                  refine V_bipush (v := (-2)) 68 dX8_tier_66 rfl (by decide) ?_
                  refine V_iret dX8_tier_68 rfl rfl ⟨_, rfl, ?_⟩ (by first | exact Nat.le_refl _ | decide | omega) (by first | exact Nat.le_refl _ | decide | omega)
                  exact ⟨rfl, rfl⟩
              · skip
                refine V_iload 49 dX8_tier_47 rfl rfl ?_
                refine V_ldc (v := 1000000000) 51 dX8_tier_49 rfl wc_X8_31 ?_
                refine V_icmp_gt 58 54 dX8_tier_51 rfl rfl (fun c_51 => ?_) (fun c_51 => ?_)
                · skip
                  refine V_iconst (v := 0) 59 dX8_tier_58 rfl (by decide) ?_
                  refine V_istore 61 dX8_tier_59 rfl (by decide) ?_
                  refine V_iload 63 dX8_tier_61 rfl rfl ?_
                  refine V_if_ne 69 66 dX8_tier_63 rfl rfl (fun c_63 => ?_) (fun c_63 => ?_)
                  · skip
                    exact absurd rfl c_63
                  · skip
                    refine V_bipush (v := (-2)) 68 dX8_tier_66 rfl (by decide) ?_
                    refine V_iret dX8_tier_68 rfl rfl ⟨_, rfl, ?_⟩ (by first | exact Nat.le_refl _ | decide | omega) (by first | exact Nat.le_refl _ | decide | omega)
                    exact ⟨rfl, rfl⟩
                · skip
                  exfalso; grind
theorem ct_X8_tier {t r tc : Nat} {j pr fe : Int32} {last : Int64} (hS : SHR h) (ht : t < 6) (hr : r < 4) (hla : 1 ≤ last ∧ last ≤ 10000000000) (hpr : 0 ≤ pr ∧ pr ≤ 1000000) (hfe : 0 ≤ fe ∧ fe ≤ 1000000000) (htc : 1 ≤ tc ∧ tc ≤ 5) (he : (qg_l h 46 0 (18 * (4 * t + r) + 2)).toInt32 = nI tc) :
    qM yX8_tier cX8_tier 17 ((some .int)) 1 21 0 0 [.inr (.inr (some (33, 0))), .inl (nI t), .inl (nI r), .inl j, .inr (.inl last), .inl pr, .inl fe] h (pI fun x h' => (x = -2 ∧ h' = h ∧ ¬ ∃ j' : Nat, j = nI j' ∧ j' ≤ tc ∧ j' < 5 ∧ ∀ k, 1 ≤ k → k + 1 < (if j' = tc then tc + 1 else tc) → m_rise h (18 * (4 * t + r)) j' last k) ∨ (x = 0 ∧ ∃ j' : Nat, (j = nI j' ∧ j' ≤ tc ∧ j' < 5 ∧ ∀ k, 1 ≤ k → k + 1 < (if j' = tc then tc + 1 else tc) → m_rise h (18 * (4 * t + r)) j' last k) ∧ h' = m_tier h (18 * (4 * t + r)) j' (if j' = tc then tc + 1 else tc) last pr fe)) := by
  refine qM.of (plainFor_of_name (by decide)) (Nat.le_of_ble_eq_true rfl) ?_
  refine V_iload_n 1 dX8_tier_0 rfl rfl ?_
  refine V_cS1i 4 (ct_isTen_ok ht) cs_X8_7 dX8_tier_1 rfl ⟨Nat.le_of_ble_eq_true rfl, Nat.le_of_ble_eq_true rfl⟩ (Nat.le_of_ble_eq_true rfl) ⟨Nat.le_of_ble_eq_true rfl, Nat.le_of_ble_eq_true rfl⟩ (fun x h' hx hle => ?_)
  obtain ⟨rfl, rfl⟩ := hx
  refine V_if_eq 58 7 dX8_tier_4 rfl rfl (fun c_4 => ?_) (fun c_4 => ?_)
  · skip
    exact absurd c_4 (by decide)
  · skip
    refine V_iload_n 8 dX8_tier_7 rfl rfl ?_
    refine V_cS1i 11 (ct_isRes_ok hr) cs_X8_28 dX8_tier_8 rfl ⟨Nat.le_of_ble_eq_true rfl, Nat.le_of_ble_eq_true rfl⟩ (Nat.le_of_ble_eq_true rfl) ⟨Nat.le_of_ble_eq_true rfl, Nat.le_of_ble_eq_true rfl⟩ (fun x h' hx hle => ?_)
    obtain ⟨rfl, rfl⟩ := hx
    refine V_if_eq 58 14 dX8_tier_11 rfl rfl (fun c_11 => ?_) (fun c_11 => ?_)
    · skip
      exact absurd c_11 (by decide)
    · skip
      refine V_lload 16 dX8_tier_14 rfl rfl ?_
      refine V_lconst (v := 1) 17 dX8_tier_16 rfl (by decide) ?_
      refine V_lcmp 18 dX8_tier_17 rfl ?_
      refine V_if_lt 58 21 dX8_tier_18 rfl rfl (fun c_18 => ?_) (fun c_18 => ?_)
      · (rw [lg_lt] at c_18)
        grind
      · (rw [lg_lt] at c_18)
        refine V_lload 23 dX8_tier_21 rfl rfl ?_
        refine V_ldc2 (v := 10000000000) 26 dX8_tier_23 rfl wc_X8_177 ?_
        refine V_lcmp 27 dX8_tier_26 rfl ?_
        refine V_if_gt 58 30 dX8_tier_27 rfl rfl (fun c_27 => ?_) (fun c_27 => ?_)
        · (rw [lg_gt] at c_27)
          grind
        · (rw [lg_gt] at c_27)
          refine V_iload 32 dX8_tier_30 rfl rfl ?_
          refine V_if_lt 58 35 dX8_tier_32 rfl rfl (fun c_32 => ?_) (fun c_32 => ?_)
          · skip
            grind
          · skip
            refine V_iload 37 dX8_tier_35 rfl rfl ?_
            refine V_ldc (v := 1000000) 39 dX8_tier_37 rfl wc_X8_63 ?_
            refine V_icmp_gt 58 42 dX8_tier_39 rfl rfl (fun c_39 => ?_) (fun c_39 => ?_)
            · skip
              grind
            · skip
              refine V_iload 44 dX8_tier_42 rfl rfl ?_
              refine V_if_lt 58 47 dX8_tier_44 rfl rfl (fun c_44 => ?_) (fun c_44 => ?_)
              · skip
                grind
              · skip
                refine V_iload 49 dX8_tier_47 rfl rfl ?_
                refine V_ldc (v := 1000000000) 51 dX8_tier_49 rfl wc_X8_31 ?_
                refine V_icmp_gt 58 54 dX8_tier_51 rfl rfl (fun c_51 => ?_) (fun c_51 => ?_)
                · skip
                  grind
                · skip
                  refine V_iconst (v := 1) 55 dX8_tier_54 rfl (by decide) ?_
                  refine V_goto 59 dX8_tier_55 rfl ?_
                  refine V_istore 61 dX8_tier_59 rfl (by decide) ?_
                  refine V_iload 63 dX8_tier_61 rfl rfl ?_
                  refine V_if_ne 69 66 dX8_tier_63 rfl rfl (fun c_63 => ?_) (fun c_63 => ?_)
                  · skip
                    refine V_iload_n 70 dX8_tier_69 rfl rfl ?_
                    refine V_iload_n 71 dX8_tier_70 rfl rfl ?_
                    refine V_cS2i 74 (ct_X8_row _ _ _) cs_X8_174 dX8_tier_71 rfl ⟨Nat.le_of_ble_eq_true rfl, Nat.le_of_ble_eq_true rfl⟩ (Nat.le_of_ble_eq_true rfl) ⟨Nat.le_of_ble_eq_true rfl, Nat.le_of_ble_eq_true rfl⟩ (fun x h' hx hle => ?_)
                    obtain ⟨rfl, rfl⟩ := hx
                    refine V_istore 76 dX8_tier_74 rfl (by decide) ?_
                    refine V_aload_n 77 dX8_tier_76 rfl rfl ?_
                    refine V_getR 80 8 16 fl_X8_131 dX8_tier_77 rfl rfl (by decide) (Or.inr ⟨_, rfl⟩) (by decide) (sr_16 hS) ?_
                    refine V_iload 82 dX8_tier_80 rfl rfl ?_
                    refine V_iconst (v := 2) 83 dX8_tier_82 rfl (by decide) ?_
                    refine V_iadd 84 dX8_tier_83 rfl ?_
                    refine V_laldN 85 (18 * (4 * t + r) + 2) dX8_tier_84 rfl rfl (by decide) (nI_add _ 2) (show _ < 4752 by omega) (by decide) ?_
                    refine V_l2i 86 dX8_tier_85 rfl ?_
                    rw [he]
                    refine V_istore 88 dX8_tier_86 rfl (by decide) ?_
                    refine V_iload_n 89 dX8_tier_88 rfl rfl ?_
                    refine V_if_lt 103 92 dX8_tier_89 rfl rfl (fun c_89 => ?_) (fun c_89 => ?_)
                    · skip
                      refine V_bipush (v := (-2)) 105 dX8_tier_103 rfl (by decide) ?_
                      refine V_iret dX8_tier_105 rfl rfl ⟨_, rfl, ?_⟩ (by first | exact Nat.le_refl _ | decide | omega) (by first | exact Nat.le_refl _ | decide | omega)
                      refine Or.inl ⟨rfl, rfl, ?_⟩
                      rintro ⟨j', rfl, q1, q2, -⟩
                      have a1 := nI_pos (show j' < 2 ^ 31 by omega)
                      have a2 := nI_leI (show j' < 2 ^ 31 by omega) (show tc < 2 ^ 31 by omega)
                      have a3 := nI_leI (show j' < 2 ^ 31 by omega) (show 4 < 2 ^ 31 by omega)
                      have a4 : nI 4 = 4 := rfl
                      grind
                    · skip
                      refine V_iload_n 93 dX8_tier_92 rfl rfl ?_
                      refine V_iload 95 dX8_tier_93 rfl rfl ?_
                      refine V_icmp_gt 103 98 dX8_tier_95 rfl rfl (fun c_95 => ?_) (fun c_95 => ?_)
                      · skip
                        refine V_bipush (v := (-2)) 105 dX8_tier_103 rfl (by decide) ?_
                        refine V_iret dX8_tier_105 rfl rfl ⟨_, rfl, ?_⟩ (by first | exact Nat.le_refl _ | decide | omega) (by first | exact Nat.le_refl _ | decide | omega)
                        refine Or.inl ⟨rfl, rfl, ?_⟩
                        rintro ⟨j', rfl, q1, q2, -⟩
                        have a1 := nI_pos (show j' < 2 ^ 31 by omega)
                        have a2 := nI_leI (show j' < 2 ^ 31 by omega) (show tc < 2 ^ 31 by omega)
                        have a3 := nI_leI (show j' < 2 ^ 31 by omega) (show 4 < 2 ^ 31 by omega)
                        have a4 : nI 4 = 4 := rfl
                        grind
                      · skip
                        refine V_iload_n 99 dX8_tier_98 rfl rfl ?_
                        refine V_iconst (v := 4) 100 dX8_tier_99 rfl (by decide) ?_
                        refine V_icmp_le 106 103 dX8_tier_100 rfl rfl (fun c_100 => ?_) (fun c_100 => ?_)
                        · skip
                          obtain ⟨j', hj5, rfl⟩ : ∃ j' : Nat, j' ≤ 4 ∧ j = nI j' := nI_of2 (M := 4) rfl c_89 c_100
                          have hjt : j' ≤ tc := (nI_leI (by omega) (by omega)).mp (by grind)
                          have ejt : nI j' = nI tc ↔ j' = tc := nI_eq (by omega) (by omega)
                          have hfin : ∀ th, th = (if j' = tc then tc + 1 else tc) → Vw yX8_tier cX8_tier 17 ((some .int)) (qrm 1 21 0 0) 0 0 (qg_n h') (pI fun x g => (x = -2 ∧ g = h' ∧ ¬ ∃ j'_1 : Nat, nI j' = nI j'_1 ∧ j'_1 ≤ tc ∧ j'_1 < 5 ∧ ∀ k, 1 ≤ k → k + 1 < (if j'_1 = tc then tc + 1 else tc) → m_rise h' (18 * (4 * t + r)) j'_1 last k) ∨ (x = 0 ∧ ∃ j'_1 : Nat, (nI j' = nI j'_1 ∧ j'_1 ≤ tc ∧ j'_1 < 5 ∧ ∀ k, 1 ≤ k → k + 1 < (if j'_1 = tc then tc + 1 else tc) → m_rise h' (18 * (4 * t + r)) j'_1 last k) ∧ g = m_tier h' (18 * (4 * t + r)) j'_1 (if j'_1 = tc then tc + 1 else tc) last pr fe)) 126 [(0, .inr (.inr (some (33, 0)))), (3, .inl (nI j')), (4, .inr (.inl last)), (6, .inl pr), (7, .inl fe), (9, .inl (nI (18 * (4 * t + r)))), (11, .inl (nI th)), (12, .inl (nI 1))] [] h' 0 0 := by
                            intro th hth
                            refine lp_X8_tier hS (by omega) (by omega) (by split at hth <;> omega) (fun q => ⟨_, rfl, Or.inl ⟨rfl, rfl, ?_⟩⟩) (fun q => ⟨_, rfl, Or.inr ⟨rfl, j', ⟨rfl, hjt, by omega, ?_⟩, ?_⟩⟩) (th + 4) 1 (Nat.le_refl _) (by omega) (fun k' q1 q2 => by omega)
                            · rintro ⟨j2, z1, z2, z3, z4⟩
                              have : j' = j2 := (nI_eq (by omega) (by omega)).mp z1
                              subst this
                              rw [← hth] at z4
                              exact q z4
                            · rw [← hth]; exact q
                            · rw [← hth]
                          refine V_iload_n 107 dX8_tier_106 rfl rfl ?_
                          refine V_iload 109 dX8_tier_107 rfl rfl ?_
                          refine V_icmp_ne 119 112 dX8_tier_109 rfl rfl (fun c_109 => ?_) (fun c_109 => ?_)
                          · skip
                            refine V_iload 121 dX8_tier_119 rfl rfl ?_
                            refine V_istore 123 dX8_tier_121 rfl (by decide) ?_
                            refine V_iconst (v := 1) 124 dX8_tier_123 rfl (by decide) ?_
                            refine V_istore 126 dX8_tier_124 rfl (by decide) ?_
                            exact V_at (hfin _ (by first | rw [if_pos (ejt.mp c_109)] | rw [if_neg (fun q => c_109 (ejt.mpr q))])) ⟨rfl, rfl, rfl, rfl, rfl, rfl, rfl, rfl, trivial⟩
                          · skip
                            refine V_iload 114 dX8_tier_112 rfl rfl ?_
                            refine V_iconst (v := 1) 115 dX8_tier_114 rfl (by decide) ?_
                            refine V_iadd 116 dX8_tier_115 rfl ?_
                            rw [nI_1]
                            refine V_goto 121 dX8_tier_116 rfl ?_
                            refine V_istore 123 dX8_tier_121 rfl (by decide) ?_
                            refine V_iconst (v := 1) 124 dX8_tier_123 rfl (by decide) ?_
                            refine V_istore 126 dX8_tier_124 rfl (by decide) ?_
                            exact V_at (hfin _ (by first | rw [if_pos (ejt.mp c_109)] | rw [if_neg (fun q => c_109 (ejt.mpr q))])) ⟨rfl, rfl, rfl, rfl, rfl, rfl, rfl, rfl, trivial⟩
                        · skip
                          refine V_bipush (v := (-2)) 105 dX8_tier_103 rfl (by decide) ?_
                          refine V_iret dX8_tier_105 rfl rfl ⟨_, rfl, ?_⟩ (by first | exact Nat.le_refl _ | decide | omega) (by first | exact Nat.le_refl _ | decide | omega)
                          refine Or.inl ⟨rfl, rfl, ?_⟩
                          rintro ⟨j', rfl, q1, q2, -⟩
                          have a1 := nI_pos (show j' < 2 ^ 31 by omega)
                          have a2 := nI_leI (show j' < 2 ^ 31 by omega) (show tc < 2 ^ 31 by omega)
                          have a3 := nI_leI (show j' < 2 ^ 31 by omega) (show 4 < 2 ^ 31 by omega)
                          have a4 : nI 4 = 4 := rfl
                          grind
                  · skip
                    exact absurd c_63 (by decide)
def m_part (s o : Int64) : Int64 := let w := q_fdiv s 10000 * o + q_fmod s 10000 * o / 10000; let r := q_fmod s 10000 * o - q_fmod s 10000 * o / 10000 * 10000; if 5000 < r ∨ (r = 5000 ∧ ¬ (w &&& 1) = 0) then w + 1 else w
theorem ct_X8_part (h : qH) {s : Int64} {o : Int32} : qM yX8_part cX8_part 8 ((some .long)) 1 25 0 0 [.inr (.inl s), .inl o] h (pL fun x h' => x = m_part s o.toInt64 ∧ h' = h) := by
  refine qM.of (plainFor_of_name (by decide)) (Nat.le_of_ble_eq_true rfl) ?_
  refine V_lload_n 1 dX8_part_0 rfl rfl ?_
  refine V_ldc2 (v := 10000) 4 dX8_part_1 rfl wc_X8_196 ?_
  refine V_cS2l 7 (ct_J9_floorDiv_f86c9 _ _ _ (by decide)) cs_X8_198 dX8_part_4 rfl ⟨Nat.le_of_ble_eq_true rfl, Nat.le_of_ble_eq_true rfl⟩ (Nat.le_of_ble_eq_true rfl) ⟨Nat.le_of_ble_eq_true rfl, Nat.le_of_ble_eq_true rfl⟩ (fun x h' hx hle => ?_)
  obtain ⟨rfl, rfl⟩ := hx
  refine V_iload_n 8 dX8_part_7 rfl rfl ?_
  refine V_i2l 9 dX8_part_8 rfl ?_
  refine V_lmul 10 dX8_part_9 rfl ?_
  refine V_lstore_n 11 dX8_part_10 rfl (by decide) ?_
  refine V_lload_n 12 dX8_part_11 rfl rfl ?_
  refine V_ldc2 (v := 10000) 15 dX8_part_12 rfl wc_X8_196 ?_
  refine V_cS2l 18 (ct_J9_floorMod_f86c9 _ _ _ (by decide)) cs_X8_201 dX8_part_15 rfl ⟨Nat.le_of_ble_eq_true rfl, Nat.le_of_ble_eq_true rfl⟩ (Nat.le_of_ble_eq_true rfl) ⟨Nat.le_of_ble_eq_true rfl, Nat.le_of_ble_eq_true rfl⟩ (fun x h' hx hle => ?_)
  obtain ⟨rfl, rfl⟩ := hx
  refine V_iload_n 19 dX8_part_18 rfl rfl ?_
  refine V_i2l 20 dX8_part_19 rfl ?_
  refine V_lmul 21 dX8_part_20 rfl ?_
  refine V_lstore 23 dX8_part_21 rfl (by decide) ?_
  refine V_lload_n 24 dX8_part_23 rfl rfl ?_
  refine V_lload 26 dX8_part_24 rfl rfl ?_
  refine V_ldc2 (v := 10000) 29 dX8_part_26 rfl wc_X8_196 ?_
  refine V_ldiv 30 dX8_part_29 rfl (by decide) ?_
  refine V_ladd 31 dX8_part_30 rfl ?_
  refine V_lstore_n 32 dX8_part_31 rfl (by decide) ?_
  refine V_lload 34 dX8_part_32 rfl rfl ?_
  refine V_ldc2 (v := 10000) 37 dX8_part_34 rfl wc_X8_196 ?_
  refine V_lrem 38 dX8_part_37 rfl (by decide) ?_
  refine V_lstore 40 dX8_part_38 rfl (by decide) ?_
  refine V_lload 42 dX8_part_40 rfl rfl ?_
  refine V_ldc2 (v := 5000) 45 dX8_part_42 rfl wc_X8_204 ?_
  refine V_lcmp 46 dX8_part_45 rfl ?_
  refine V_if_gt 66 49 dX8_part_46 rfl rfl (fun c_46 => ?_) (fun c_46 => ?_)
  · (rw [lg_gt] at c_46)
    refine V_iconst (v := 1) 67 dX8_part_66 rfl (by decide) ?_
    refine V_goto 71 dX8_part_67 rfl ?_
    refine V_istore 73 dX8_part_71 rfl (by decide) ?_
    refine V_iload 75 dX8_part_73 rfl rfl ?_
    refine V_if_eq 84 78 dX8_part_75 rfl rfl (fun c_75 => ?_) (fun c_75 => ?_)
    · skip
      refine V_lload_n 85 dX8_part_84 rfl rfl ?_
      refine V_lret dX8_part_85 rfl ⟨_, rfl, ?_⟩ (by first | exact Nat.le_refl _ | decide | omega) (by first | exact Nat.le_refl _ | decide | omega)
      refine ⟨?_, rfl⟩
      simp only [m_part]
      grind
    · skip
      refine V_lload_n 79 dX8_part_78 rfl rfl ?_
      refine V_lconst (v := 1) 80 dX8_part_79 rfl (by decide) ?_
      refine V_ladd 81 dX8_part_80 rfl ?_
      refine V_goto 85 dX8_part_81 rfl ?_
      refine V_lret dX8_part_85 rfl ⟨_, rfl, ?_⟩ (by first | exact Nat.le_refl _ | decide | omega) (by first | exact Nat.le_refl _ | decide | omega)
      refine ⟨?_, rfl⟩
      simp only [m_part]
      grind
  · (rw [lg_gt] at c_46)
    refine V_lload 51 dX8_part_49 rfl rfl ?_
    refine V_ldc2 (v := 5000) 54 dX8_part_51 rfl wc_X8_204 ?_
    refine V_lcmp 55 dX8_part_54 rfl ?_
    refine V_if_ne 70 58 dX8_part_55 rfl rfl (fun c_55 => ?_) (fun c_55 => ?_)
    · (rw [lg_eq] at c_55)
      refine V_iconst (v := 0) 71 dX8_part_70 rfl (by decide) ?_
      refine V_istore 73 dX8_part_71 rfl (by decide) ?_
      refine V_iload 75 dX8_part_73 rfl rfl ?_
      refine V_if_eq 84 78 dX8_part_75 rfl rfl (fun c_75 => ?_) (fun c_75 => ?_)
      · skip
        refine V_lload_n 85 dX8_part_84 rfl rfl ?_
        refine V_lret dX8_part_85 rfl ⟨_, rfl, ?_⟩ (by first | exact Nat.le_refl _ | decide | omega) (by first | exact Nat.le_refl _ | decide | omega)
        refine ⟨?_, rfl⟩
        simp only [m_part]
        grind
      · skip
        refine V_lload_n 79 dX8_part_78 rfl rfl ?_
        refine V_lconst (v := 1) 80 dX8_part_79 rfl (by decide) ?_
        refine V_ladd 81 dX8_part_80 rfl ?_
        refine V_goto 85 dX8_part_81 rfl ?_
        refine V_lret dX8_part_85 rfl ⟨_, rfl, ?_⟩ (by first | exact Nat.le_refl _ | decide | omega) (by first | exact Nat.le_refl _ | decide | omega)
        refine ⟨?_, rfl⟩
        simp only [m_part]
        grind
    · (rw [lg_eq] at c_55)
      refine V_lload_n 59 dX8_part_58 rfl rfl ?_
      refine V_lconst (v := 1) 60 dX8_part_59 rfl (by decide) ?_
      refine V_land 61 dX8_part_60 rfl ?_
      refine V_lconst (v := 0) 62 dX8_part_61 rfl (by decide) ?_
      refine V_lcmp 63 dX8_part_62 rfl ?_
      refine V_if_eq 70 66 dX8_part_63 rfl rfl (fun c_63 => ?_) (fun c_63 => ?_)
      · (rw [lg_eq] at c_63)
        refine V_iconst (v := 0) 71 dX8_part_70 rfl (by decide) ?_
        refine V_istore 73 dX8_part_71 rfl (by decide) ?_
        refine V_iload 75 dX8_part_73 rfl rfl ?_
        refine V_if_eq 84 78 dX8_part_75 rfl rfl (fun c_75 => ?_) (fun c_75 => ?_)
        · skip
          refine V_lload_n 85 dX8_part_84 rfl rfl ?_
          refine V_lret dX8_part_85 rfl ⟨_, rfl, ?_⟩ (by first | exact Nat.le_refl _ | decide | omega) (by first | exact Nat.le_refl _ | decide | omega)
          refine ⟨?_, rfl⟩
          simp only [m_part]
          grind
        · skip
          refine V_lload_n 79 dX8_part_78 rfl rfl ?_
          refine V_lconst (v := 1) 80 dX8_part_79 rfl (by decide) ?_
          refine V_ladd 81 dX8_part_80 rfl ?_
          refine V_goto 85 dX8_part_81 rfl ?_
          refine V_lret dX8_part_85 rfl ⟨_, rfl, ?_⟩ (by first | exact Nat.le_refl _ | decide | omega) (by first | exact Nat.le_refl _ | decide | omega)
          refine ⟨?_, rfl⟩
          simp only [m_part]
          grind
      · (rw [lg_eq] at c_63)
        refine V_iconst (v := 1) 67 dX8_part_66 rfl (by decide) ?_
        refine V_goto 71 dX8_part_67 rfl ?_
        refine V_istore 73 dX8_part_71 rfl (by decide) ?_
        refine V_iload 75 dX8_part_73 rfl rfl ?_
        refine V_if_eq 84 78 dX8_part_75 rfl rfl (fun c_75 => ?_) (fun c_75 => ?_)
        · skip
          refine V_lload_n 85 dX8_part_84 rfl rfl ?_
          refine V_lret dX8_part_85 rfl ⟨_, rfl, ?_⟩ (by first | exact Nat.le_refl _ | decide | omega) (by first | exact Nat.le_refl _ | decide | omega)
          refine ⟨?_, rfl⟩
          simp only [m_part]
          grind
        · skip
          refine V_lload_n 79 dX8_part_78 rfl rfl ?_
          refine V_lconst (v := 1) 80 dX8_part_79 rfl (by decide) ?_
          refine V_ladd 81 dX8_part_80 rfl ?_
          refine V_goto 85 dX8_part_81 rfl ?_
          refine V_lret dX8_part_85 rfl ⟨_, rfl, ?_⟩ (by first | exact Nat.le_refl _ | decide | omega) (by first | exact Nat.le_refl _ | decide | omega)
          refine ⟨?_, rfl⟩
          simp only [m_part]
          grind
def m_line (h : qH) (ni lc : Nat) (kd rs : Int32) (q m : Int64) : qH := qs_i (qs_l (qs_l (qs_l (qs_l h 60 0 (4 * (60 * ni + lc)) kd.toInt64) 60 0 (4 * (60 * ni + lc) + 1) rs.toInt64) 60 0 (4 * (60 * ni + lc) + 2) q) 60 0 (4 * (60 * ni + lc) + 3) m) 59 0 ni (nI (lc + 1))
theorem ct_X8_line {ni lc : Nat} {kd rs : Int32} {q m : Int64} (hS : SHR h) (e : qg_i h 33 0 27 = nI ni) (hni : ni < 60) (el : qg_i h 59 0 ni = nI lc) (hlc : lc < 60) : qM yX8_line cX8_line 8 none 0 0 0 0 [.inr (.inr (some (33, 0))), .inl kd, .inl rs, .inr (.inl q), .inr (.inl m)] h (pV fun h' => h' = m_line h ni lc kd rs q m) := by
  have ea : (4 : Int32) * (60 * nI ni + nI lc) = nI (4 * (60 * ni + lc)) := by rw [show (4 : Int32) = nI 4 from rfl, show (60 : Int32) = nI 60 from rfl, pk_mul, nI_add, pk_mul]
  refine qM.of (plainFor_of_name (by decide)) (Nat.le_of_ble_eq_true rfl) ?_
  refine V_iconst (v := 4) 1 dX8_line_0 rfl (by decide) ?_
  refine V_bipush (v := 60) 3 dX8_line_1 rfl (by decide) ?_
  refine V_aload_n 4 dX8_line_3 rfl rfl ?_
  refine V_getiV 7 8 27 fl_X8_206 dX8_line_4 rfl rfl (by decide) rfl (by decide) e ?_
  refine V_imul 8 dX8_line_7 rfl ?_
  refine V_aload_n 9 dX8_line_8 rfl rfl ?_
  refine V_getR 12 8 30 fl_X8_167 dX8_line_9 rfl rfl (by decide) (Or.inr ⟨_, rfl⟩) (by decide) (sr_30 hS) ?_
  refine V_aload_n 13 dX8_line_12 rfl rfl ?_
  refine V_getiV 16 8 27 fl_X8_206 dX8_line_13 rfl rfl (by decide) rfl (by decide) e ?_
  refine V_ialdV 17 (_) dX8_line_16 rfl rfl (by decide) rfl (show _ < 60 by omega) (by decide) el ?_
  refine V_iadd 18 dX8_line_17 rfl ?_
  refine V_imul 19 dX8_line_18 rfl ?_
  rw [ea]
  refine V_istore 21 dX8_line_19 rfl (by decide) ?_
  refine V_aload_n 22 dX8_line_21 rfl rfl ?_
  refine V_getR 25 8 31 fl_X8_170 dX8_line_22 rfl rfl (by decide) (Or.inr ⟨_, rfl⟩) (by decide) (sr_31 hS) ?_
  refine V_iload 27 dX8_line_25 rfl rfl ?_
  refine V_iload_n 28 dX8_line_27 rfl rfl ?_
  refine V_i2l 29 dX8_line_28 rfl ?_
  refine V_lastN 30 (_) dX8_line_29 rfl rfl (by decide) rfl (show _ < 14400 by omega) (by decide) ?_
  refine V_aload_n 31 dX8_line_30 rfl rfl ?_
  refine V_getR 34 8 31 fl_X8_170 dX8_line_31 rfl rfl (by decide) (Or.inr ⟨_, rfl⟩) (by decide) (sr_31 hS) ?_
  refine V_iload 36 dX8_line_34 rfl rfl ?_
  refine V_iconst (v := 1) 37 dX8_line_36 rfl (by decide) ?_
  refine V_iadd 38 dX8_line_37 rfl ?_
  refine V_iload_n 39 dX8_line_38 rfl rfl ?_
  refine V_i2l 40 dX8_line_39 rfl ?_
  refine V_lastN 41 (4 * (60 * ni + lc) + 1) dX8_line_40 rfl rfl (by decide) (nI_1 _) (show _ < 14400 by omega) (by decide) ?_
  refine V_aload_n 42 dX8_line_41 rfl rfl ?_
  refine V_getR 45 8 31 fl_X8_170 dX8_line_42 rfl rfl (by decide) (Or.inr ⟨_, rfl⟩) (by decide) (sr_31 hS) ?_
  refine V_iload 47 dX8_line_45 rfl rfl ?_
  refine V_iconst (v := 2) 48 dX8_line_47 rfl (by decide) ?_
  refine V_iadd 49 dX8_line_48 rfl ?_
  refine V_lload_n 50 dX8_line_49 rfl rfl ?_
  refine V_lastN 51 (4 * (60 * ni + lc) + 2) dX8_line_50 rfl rfl (by decide) (nI_add _ 2) (show _ < 14400 by omega) (by decide) ?_
  refine V_aload_n 52 dX8_line_51 rfl rfl ?_
  refine V_getR 55 8 31 fl_X8_170 dX8_line_52 rfl rfl (by decide) (Or.inr ⟨_, rfl⟩) (by decide) (sr_31 hS) ?_
  refine V_iload 57 dX8_line_55 rfl rfl ?_
  refine V_iconst (v := 3) 58 dX8_line_57 rfl (by decide) ?_
  refine V_iadd 59 dX8_line_58 rfl ?_
  refine V_lload 61 dX8_line_59 rfl rfl ?_
  refine V_lastN 62 (4 * (60 * ni + lc) + 3) dX8_line_61 rfl rfl (by decide) (nI_add _ 3) (show _ < 14400 by omega) (by decide) ?_
  refine V_aload_n 63 dX8_line_62 rfl rfl ?_
  refine V_getR 66 8 30 fl_X8_167 dX8_line_63 rfl rfl (by decide) (Or.inr ⟨_, rfl⟩) (by decide) (sr_30 hS) ?_
  refine V_aload_n 67 dX8_line_66 rfl rfl ?_
  refine V_getiV 70 8 27 fl_X8_206 dX8_line_67 rfl rfl (by decide) rfl (by decide) e ?_
  refine V_dup2 71 dX8_line_70 rfl ?_
  refine V_ialdV 72 (_) dX8_line_71 rfl rfl (by decide) rfl (show _ < 60 by omega) (by decide) el ?_
  refine V_iconst (v := 1) 73 dX8_line_72 rfl (by decide) ?_
  refine V_iadd 74 dX8_line_73 rfl ?_
  rw [nI_1]
  refine V_iastN 75 (_) dX8_line_74 rfl rfl (by decide) rfl (show _ < 60 by omega) (by decide) ?_
  refine V_vret dX8_line_75 rfl ⟨rfl, ?_⟩ (by first | exact Nat.le_refl _ | decide | omega) (by first | exact Nat.le_refl _ | decide | omega)
  rfl
theorem ct_X8_line__ok {ni i k lc w : Nat} (hS : SHR h) (e : qg_i h 33 0 27 = nI ni) (hni : ni ≤ 60) (hi : i < ni) (el : qg_i h 59 0 i = nI lc) (hlc : lc ≤ 60) (hk : k < lc) (hw : w ≤ 3) : qM yX8_line_ cX8_line_ 4 ((some .long)) 0 0 0 0 [.inr (.inr (some (33, 0))), .inl (nI i), .inl (nI k), .inl (nI w)] h (pL fun x h' => x = qg_l h 60 0 (4 * (60 * i + k) + w) ∧ h' = h) := by
  refine qM.of (plainFor_of_name (by decide)) (Nat.le_of_ble_eq_true rfl) ?_
  refine V_iload_n 1 dX8_line__0 rfl rfl ?_
  refine V_if_lt 35 4 dX8_line__1 rfl rfl (fun c_1 => ?_) (fun c_1 => ?_)
  · skip
    exact absurd c_1 (nI_pos (by omega))
  · skip
    refine V_iload_n 5 dX8_line__4 rfl rfl ?_
    refine V_aload_n 6 dX8_line__5 rfl rfl ?_
    refine V_getiV 9 8 27 fl_X8_206 dX8_line__6 rfl rfl (by decide) rfl (by decide) e ?_
    refine V_icmp_ge 35 12 dX8_line__9 rfl rfl (fun c_9 => ?_) (fun c_9 => ?_)
    · skip
      exact absurd c_9 (nI_ge hi (by omega))
    · skip
      refine V_iload_n 13 dX8_line__12 rfl rfl ?_
      refine V_if_lt 35 16 dX8_line__13 rfl rfl (fun c_13 => ?_) (fun c_13 => ?_)
      · skip
        exact absurd c_13 (nI_pos (by omega))
      · skip
        refine V_iload_n 17 dX8_line__16 rfl rfl ?_
        refine V_aload_n 18 dX8_line__17 rfl rfl ?_
        refine V_getR 21 8 30 fl_X8_167 dX8_line__18 rfl rfl (by decide) (Or.inr ⟨_, rfl⟩) (by decide) (sr_30 hS) ?_
        refine V_iload_n 22 dX8_line__21 rfl rfl ?_
        refine V_ialdV 23 (_) dX8_line__22 rfl rfl (by decide) rfl (show _ < 60 by omega) (by decide) el ?_
        refine V_icmp_ge 35 26 dX8_line__23 rfl rfl (fun c_23 => ?_) (fun c_23 => ?_)
        · skip
          exact absurd c_23 (nI_ge hk (by omega))
        · skip
          refine V_iload_n 27 dX8_line__26 rfl rfl ?_
          refine V_if_lt 35 30 dX8_line__27 rfl rfl (fun c_27 => ?_) (fun c_27 => ?_)
          · skip
            exact absurd c_27 (nI_pos (by omega))
          · skip
            refine V_iload_n 31 dX8_line__30 rfl rfl ?_
            refine V_iconst (v := 3) 32 dX8_line__31 rfl (by decide) ?_
            refine V_icmp_le 39 35 dX8_line__32 rfl rfl (fun c_32 => ?_) (fun c_32 => ?_)
            · skip
              refine V_aload_n 40 dX8_line__39 rfl rfl ?_
              refine V_getR 43 8 31 fl_X8_170 dX8_line__40 rfl rfl (by decide) (Or.inr ⟨_, rfl⟩) (by decide) (sr_31 hS) ?_
              refine V_iconst (v := 4) 44 dX8_line__43 rfl (by decide) ?_
              refine V_bipush (v := 60) 46 dX8_line__44 rfl (by decide) ?_
              refine V_iload_n 47 dX8_line__46 rfl rfl ?_
              refine V_imul 48 dX8_line__47 rfl ?_
              refine V_iload_n 49 dX8_line__48 rfl rfl ?_
              refine V_iadd 50 dX8_line__49 rfl ?_
              refine V_imul 51 dX8_line__50 rfl ?_
              refine V_iload_n 52 dX8_line__51 rfl rfl ?_
              refine V_iadd 53 dX8_line__52 rfl ?_
              refine V_laldN 54 (4 * (60 * i + k) + w) dX8_line__53 rfl rfl (by decide) (by rw [show (4 : Int32) = nI 4 from rfl, show (60 : Int32) = nI 60 from rfl, pk_mul, nI_add, pk_mul, nI_add]) (show _ < 14400 by omega) (by decide) ?_
              refine V_lret dX8_line__54 rfl ⟨_, rfl, ?_⟩ (by first | exact Nat.le_refl _ | decide | omega) (by first | exact Nat.le_refl _ | decide | omega)
              exact ⟨rfl, rfl⟩
            · skip
              exact absurd (nI_le (b := 3) hw (by omega)) c_32
theorem ct_X8_line__bad {ni : Nat} {i k w : Int32} (hS : SHR h) (e : qg_i h 33 0 27 = nI ni) (hni : ni ≤ 60) (hbad : ¬ ∃ i' : Nat, i' < ni ∧ i = nI i' ∧ (0 ≤ k ∧ k < qg_i h 59 0 i') ∧ (0 ≤ w ∧ w ≤ 3)) : qM yX8_line_ cX8_line_ 4 ((some .long)) 0 0 0 0 [.inr (.inr (some (33, 0))), .inl i, .inl k, .inl w] h (pL fun x h' => x = -2 ∧ h' = h) := by
  refine qM.of (plainFor_of_name (by decide)) (Nat.le_of_ble_eq_true rfl) ?_
  refine V_iload_n 1 dX8_line__0 rfl rfl ?_
  refine V_if_lt 35 4 dX8_line__1 rfl rfl (fun c_1 => ?_) (fun c_1 => ?_)
  · skip
    refine V_ldc2 (v := -2) 38 dX8_line__35 rfl wc_X8_75 ?_
    refine V_lret dX8_line__38 rfl ⟨_, rfl, ?_⟩ (by first | exact Nat.le_refl _ | decide | omega) (by first | exact Nat.le_refl _ | decide | omega)
    exact ⟨rfl, rfl⟩
  · skip
    refine V_iload_n 5 dX8_line__4 rfl rfl ?_
    refine V_aload_n 6 dX8_line__5 rfl rfl ?_
    refine V_getiV 9 8 27 fl_X8_206 dX8_line__6 rfl rfl (by decide) rfl (by decide) e ?_
    refine V_icmp_ge 35 12 dX8_line__9 rfl rfl (fun c_9 => ?_) (fun c_9 => ?_)
    · skip
      refine V_ldc2 (v := -2) 38 dX8_line__35 rfl wc_X8_75 ?_
      refine V_lret dX8_line__38 rfl ⟨_, rfl, ?_⟩ (by first | exact Nat.le_refl _ | decide | omega) (by first | exact Nat.le_refl _ | decide | omega)
      exact ⟨rfl, rfl⟩
    · skip
      obtain ⟨i', hi', rfl⟩ : ∃ b, b < ni ∧ i = nI b := by
        rcases pk_ix i (n := ni) (by omega) with z | z | z
        · exact absurd z c_1
        · exact absurd z c_9
        · exact z
      refine V_iload_n 13 dX8_line__12 rfl rfl ?_
      refine V_if_lt 35 16 dX8_line__13 rfl rfl (fun c_13 => ?_) (fun c_13 => ?_)
      · skip
        refine V_ldc2 (v := -2) 38 dX8_line__35 rfl wc_X8_75 ?_
        refine V_lret dX8_line__38 rfl ⟨_, rfl, ?_⟩ (by first | exact Nat.le_refl _ | decide | omega) (by first | exact Nat.le_refl _ | decide | omega)
        exact ⟨rfl, rfl⟩
      · skip
        refine V_iload_n 17 dX8_line__16 rfl rfl ?_
        refine V_aload_n 18 dX8_line__17 rfl rfl ?_
        refine V_getR 21 8 30 fl_X8_167 dX8_line__18 rfl rfl (by decide) (Or.inr ⟨_, rfl⟩) (by decide) (sr_30 hS) ?_
        refine V_iload_n 22 dX8_line__21 rfl rfl ?_
        refine V_ialdN 23 (_) dX8_line__22 rfl rfl (by decide) rfl (show _ < 60 by omega) (by decide) ?_
        refine V_icmp_ge 35 26 dX8_line__23 rfl rfl (fun c_23 => ?_) (fun c_23 => ?_)
        · skip
          refine V_ldc2 (v := -2) 38 dX8_line__35 rfl wc_X8_75 ?_
          refine V_lret dX8_line__38 rfl ⟨_, rfl, ?_⟩ (by first | exact Nat.le_refl _ | decide | omega) (by first | exact Nat.le_refl _ | decide | omega)
          exact ⟨rfl, rfl⟩
        · skip
          refine V_iload_n 27 dX8_line__26 rfl rfl ?_
          refine V_if_lt 35 30 dX8_line__27 rfl rfl (fun c_27 => ?_) (fun c_27 => ?_)
          · skip
            refine V_ldc2 (v := -2) 38 dX8_line__35 rfl wc_X8_75 ?_
            refine V_lret dX8_line__38 rfl ⟨_, rfl, ?_⟩ (by first | exact Nat.le_refl _ | decide | omega) (by first | exact Nat.le_refl _ | decide | omega)
            exact ⟨rfl, rfl⟩
          · skip
            refine V_iload_n 31 dX8_line__30 rfl rfl ?_
            refine V_iconst (v := 3) 32 dX8_line__31 rfl (by decide) ?_
            refine V_icmp_le 39 35 dX8_line__32 rfl rfl (fun c_32 => ?_) (fun c_32 => ?_)
            · skip
              exact absurd ⟨i', hi', rfl, by grind, by grind⟩ hbad
            · skip
              refine V_ldc2 (v := -2) 38 dX8_line__35 rfl wc_X8_75 ?_
              refine V_lret dX8_line__38 rfl ⟨_, rfl, ?_⟩ (by first | exact Nat.le_refl _ | decide | omega) (by first | exact Nat.le_refl _ | decide | omega)
              exact ⟨rfl, rfl⟩
/-- an invoice's sum -/
def m_isum (h : qH) (i n : Nat) : Int64 := sm_l (fun k => qg_l h 60 0 (4 * (60 * i + k) + 3)) n
def m_inv (h : qH) (i lc : Nat) (w : Int32) : Int64 := if w.toInt = 0 then (qg_i h 57 0 i).toInt64 else if w.toInt = 1 then (qg_i h 58 0 i).toInt64 else if w.toInt = 2 then (nI lc).toInt64 else if w.toInt = 3 then m_isum h i lc else -2
theorem lp_X8_invoice {i lc : Nat} {w : Int32} (hS : SHR h) (hi : i < 60) (el : qg_i h 59 0 i = nI lc) (hlc : lc ≤ 60) {n0 : Nat → Nat} {Post : Option qV → qH → Prop} (hP : Post (some (.inr (.inl (m_inv h i lc w)))) h) :
    ∀ (m k : Nat), k + m = lc → Vw yX8_invoice cX8_invoice 6 ((some .long)) (qrm 0 0 0 0) 0 0 n0 Post 21 [(0, .inr (.inr (some (33, 0)))), (1, .inl (nI i)), (2, .inl w), (3, .inr (.inl (m_isum h i k))), (5, .inl (nI k))] [] h 0 0 := by
  intro m
  induction m with
  | zero =>
    intro k hk
    have hk : k = lc := by omega
    subst hk
    refine V_iload 23 dX8_invoice_21 rfl rfl ?_
    refine V_aload_n 24 dX8_invoice_23 rfl rfl ?_
    refine V_getR 27 8 30 fl_X8_167 dX8_invoice_24 rfl rfl (by decide) (Or.inr ⟨_, rfl⟩) (by decide) (sr_30 hS) ?_
    refine V_iload_n 28 dX8_invoice_27 rfl rfl ?_
    refine V_ialdV 29 (_) dX8_invoice_28 rfl rfl (by decide) rfl (show _ < 60 by omega) (by decide) el ?_
    refine V_icmp_ge 57 32 dX8_invoice_29 rfl rfl (fun c_29 => ?_) (fun c_29 => ?_)
    · skip
      refine V_iload_n 58 dX8_invoice_57 rfl rfl ?_
      by_cases z_58 : w.toInt < 0 ∨ 3 < w.toInt
      · refine V_tabOut 114 dX8_invoice_58 z_58 rfl ?_
        refine V_ldc2 (v := -2) 117 dX8_invoice_114 rfl wc_X8_75 ?_
        refine V_lret dX8_invoice_117 rfl ?_ (by first | exact Nat.le_refl _ | decide | omega) (by first | exact Nat.le_refl _ | decide | omega)
        unfold m_inv at hP
        rw [if_neg (by omega), if_neg (by omega), if_neg (by omega), if_neg (by omega)] at hP
        exact hP
      · obtain ⟨j_58, hj_58, hx_58⟩ : ∃ j : Nat, j < 4 ∧ w = nI (0 + j) := qx_sw 0 4 (by decide) (by decide) z_58
        rcases (show j_58 = 0 ∨ j_58 = 1 ∨ j_58 = 2 ∨ j_58 = 3 by omega) with rfl | rfl | rfl | rfl
        · rw [hx_58]
          refine V_tabIn (x := nI (0 + 0)) 88 dX8_invoice_58 (by decide) (by decide) rfl rfl ?_
          rw [hx_58] at hP
          refine V_aload_n 89 dX8_invoice_88 rfl rfl ?_
          refine V_getR 92 8 28 fl_X8_161 dX8_invoice_89 rfl rfl (by decide) (Or.inr ⟨_, rfl⟩) (by decide) (sr_28 hS) ?_
          refine V_iload_n 93 dX8_invoice_92 rfl rfl ?_
          refine V_ialdN 94 (_) dX8_invoice_93 rfl rfl (by decide) rfl (show _ < 60 by omega) (by decide) ?_
          refine V_i2l 95 dX8_invoice_94 rfl ?_
          refine V_lret dX8_invoice_95 rfl ?_ (by first | exact Nat.le_refl _ | decide | omega) (by first | exact Nat.le_refl _ | decide | omega)
          exact hP
        · rw [hx_58]
          refine V_tabIn (x := nI (0 + 1)) 96 dX8_invoice_58 (by decide) (by decide) rfl rfl ?_
          rw [hx_58] at hP
          refine V_aload_n 97 dX8_invoice_96 rfl rfl ?_
          refine V_getR 100 8 29 fl_X8_164 dX8_invoice_97 rfl rfl (by decide) (Or.inr ⟨_, rfl⟩) (by decide) (sr_29 hS) ?_
          refine V_iload_n 101 dX8_invoice_100 rfl rfl ?_
          refine V_ialdN 102 (_) dX8_invoice_101 rfl rfl (by decide) rfl (show _ < 60 by omega) (by decide) ?_
          refine V_i2l 103 dX8_invoice_102 rfl ?_
          refine V_lret dX8_invoice_103 rfl ?_ (by first | exact Nat.le_refl _ | decide | omega) (by first | exact Nat.le_refl _ | decide | omega)
          exact hP
        · rw [hx_58]
          refine V_tabIn (x := nI (0 + 2)) 104 dX8_invoice_58 (by decide) (by decide) rfl rfl ?_
          rw [hx_58] at hP
          refine V_aload_n 105 dX8_invoice_104 rfl rfl ?_
          refine V_getR 108 8 30 fl_X8_167 dX8_invoice_105 rfl rfl (by decide) (Or.inr ⟨_, rfl⟩) (by decide) (sr_30 hS) ?_
          refine V_iload_n 109 dX8_invoice_108 rfl rfl ?_
          refine V_ialdV 110 (_) dX8_invoice_109 rfl rfl (by decide) rfl (show _ < 60 by omega) (by decide) el ?_
          refine V_i2l 111 dX8_invoice_110 rfl ?_
          refine V_lret dX8_invoice_111 rfl ?_ (by first | exact Nat.le_refl _ | decide | omega) (by first | exact Nat.le_refl _ | decide | omega)
          exact hP
        · rw [hx_58]
          refine V_tabIn (x := nI (0 + 3)) 112 dX8_invoice_58 (by decide) (by decide) rfl rfl ?_
          rw [hx_58] at hP
          refine V_lload_n 113 dX8_invoice_112 rfl rfl ?_
          refine V_lret dX8_invoice_113 rfl ?_ (by first | exact Nat.le_refl _ | decide | omega) (by first | exact Nat.le_refl _ | decide | omega)
          exact hP
    · skip
      exact absurd (nI_le (Nat.le_refl _) (by omega)) c_29
  | succ m ih =>
    intro k hk
    refine V_iload 23 dX8_invoice_21 rfl rfl ?_
    refine V_aload_n 24 dX8_invoice_23 rfl rfl ?_
    refine V_getR 27 8 30 fl_X8_167 dX8_invoice_24 rfl rfl (by decide) (Or.inr ⟨_, rfl⟩) (by decide) (sr_30 hS) ?_
    refine V_iload_n 28 dX8_invoice_27 rfl rfl ?_
    refine V_ialdV 29 (_) dX8_invoice_28 rfl rfl (by decide) rfl (show _ < 60 by omega) (by decide) el ?_
    refine V_icmp_ge 57 32 dX8_invoice_29 rfl rfl (fun c_29 => ?_) (fun c_29 => ?_)
    · skip
      exact absurd c_29 (nI_ge (by omega) (by omega))
    · skip
      refine V_lload_n 33 dX8_invoice_32 rfl rfl ?_
      refine V_aload_n 34 dX8_invoice_33 rfl rfl ?_
      refine V_getR 37 8 31 fl_X8_170 dX8_invoice_34 rfl rfl (by decide) (Or.inr ⟨_, rfl⟩) (by decide) (sr_31 hS) ?_
      refine V_iconst (v := 4) 38 dX8_invoice_37 rfl (by decide) ?_
      refine V_bipush (v := 60) 40 dX8_invoice_38 rfl (by decide) ?_
      refine V_iload_n 41 dX8_invoice_40 rfl rfl ?_
      refine V_imul 42 dX8_invoice_41 rfl ?_
      refine V_iload 44 dX8_invoice_42 rfl rfl ?_
      refine V_iadd 45 dX8_invoice_44 rfl ?_
      refine V_imul 46 dX8_invoice_45 rfl ?_
      refine V_iconst (v := 3) 47 dX8_invoice_46 rfl (by decide) ?_
      refine V_iadd 48 dX8_invoice_47 rfl ?_
      refine V_laldN 49 (4 * (60 * i + k) + 3) dX8_invoice_48 rfl rfl (by decide) (by rw [show (4 : Int32) = nI 4 from rfl, show (60 : Int32) = nI 60 from rfl, show (3 : Int32) = nI 3 from rfl, pk_mul, nI_add, pk_mul, nI_add]) (show _ < 14400 by omega) (by decide) ?_
      refine V_ladd 50 dX8_invoice_49 rfl ?_
      refine V_lstore_n 51 dX8_invoice_50 rfl (by decide) ?_
      refine V_iincN 54 dX8_invoice_51 rfl rfl (by decide) ?_
      refine V_goto 21 dX8_invoice_54 rfl ?_
      exact V_at (ih (k + 1) (by omega)) ⟨rfl, rfl, rfl, rfl, rfl, trivial⟩
theorem ct_X8_invoice_ok {ni i lc : Nat} {w : Int32} (hS : SHR h) (e : qg_i h 33 0 27 = nI ni) (hni : ni ≤ 60) (hi : i < ni) (el : qg_i h 59 0 i = nI lc) (hlc : lc ≤ 60) : qM yX8_invoice cX8_invoice 6 ((some .long)) 0 0 0 0 [.inr (.inr (some (33, 0))), .inl (nI i), .inl w] h (pL fun x h' => x = m_inv h i lc w ∧ h' = h) := by
  refine qM.of (plainFor_of_name (by decide)) (Nat.le_of_ble_eq_true rfl) ?_
  refine V_iload_n 1 dX8_invoice_0 rfl rfl ?_
  refine V_if_lt 12 4 dX8_invoice_1 rfl rfl (fun c_1 => ?_) (fun c_1 => ?_)
  · skip
    exact absurd c_1 (nI_pos (by omega))
  · skip
    refine V_iload_n 5 dX8_invoice_4 rfl rfl ?_
    refine V_aload_n 6 dX8_invoice_5 rfl rfl ?_
    refine V_getiV 9 8 27 fl_X8_206 dX8_invoice_6 rfl rfl (by decide) rfl (by decide) e ?_
    refine V_icmp_lt 16 12 dX8_invoice_9 rfl rfl (fun c_9 => ?_) (fun c_9 => ?_)
    · skip
      refine V_lconst (v := 0) 17 dX8_invoice_16 rfl (by decide) ?_
      refine V_lstore_n 18 dX8_invoice_17 rfl (by decide) ?_
      refine V_iconst (v := 0) 19 dX8_invoice_18 rfl (by decide) ?_
      refine V_istore 21 dX8_invoice_19 rfl (by decide) ?_
      exact V_at (lp_X8_invoice hS (by omega) el hlc ⟨_, rfl, rfl, rfl⟩ lc 0 (by omega)) ⟨rfl, rfl, rfl, rfl, rfl, trivial⟩
    · skip
      exact absurd (nI_lt hi (by omega)) c_9
theorem ct_X8_invoice_bad {ni : Nat} {i w : Int32} (e : qg_i h 33 0 27 = nI ni) (hi : i < 0 ∨ nI ni ≤ i) : qM yX8_invoice cX8_invoice 6 ((some .long)) 0 0 0 0 [.inr (.inr (some (33, 0))), .inl i, .inl w] h (pL fun x h' => x = -2 ∧ h' = h) := by
  refine qM.of (plainFor_of_name (by decide)) (Nat.le_of_ble_eq_true rfl) ?_
  refine V_iload_n 1 dX8_invoice_0 rfl rfl ?_
  refine V_if_lt 12 4 dX8_invoice_1 rfl rfl (fun c_1 => ?_) (fun c_1 => ?_)
  · skip
    refine V_ldc2 (v := -2) 15 dX8_invoice_12 rfl wc_X8_75 ?_
    refine V_lret dX8_invoice_15 rfl ⟨_, rfl, ?_⟩ (by first | exact Nat.le_refl _ | decide | omega) (by first | exact Nat.le_refl _ | decide | omega)
    exact ⟨rfl, rfl⟩
  · skip
    refine V_iload_n 5 dX8_invoice_4 rfl rfl ?_
    refine V_aload_n 6 dX8_invoice_5 rfl rfl ?_
    refine V_getiV 9 8 27 fl_X8_206 dX8_invoice_6 rfl rfl (by decide) rfl (by decide) e ?_
    refine V_icmp_lt 16 12 dX8_invoice_9 rfl rfl (fun c_9 => ?_) (fun c_9 => ?_)
    · skip
      grind
    · skip
      refine V_ldc2 (v := -2) 15 dX8_invoice_12 rfl wc_X8_75 ?_
      refine V_lret dX8_invoice_15 rfl ⟨_, rfl, ?_⟩ (by first | exact Nat.le_refl _ | decide | omega) (by first | exact Nat.le_refl _ | decide | omega)
      exact ⟨rfl, rfl⟩
end RL
