/-! The reference: cost, quantities, keys -/
section RJ
variable {h : qH}
def cst1 (md sz n pr fe un sum : Int64) : Int64 := if md = 1 then n * pr + fe else sum + ((if md = 2 then (un + sz - 1) / sz else un) * pr + fe)
/-- the cost by tiers: k + 1 of them, m still to come, the j-th now -/
def cst (md sz : Int64) (k : Nat) (la pr fe : Nat → Int64) (n : Int64) : Nat → Nat → Int64 → Int64 → Int64
  | 0, _, sum, _ => sum
  | m + 1, j, sum, be => if be < n then cst md sz k la pr fe n m (j + 1) (cst1 md sz n (pr j) (fe j) ((if j = k then n else m_min n (la j)) - be) sum) (if j = k then n else m_min n (la j)) else sum
def m_cost (h : qH) (p k : Nat) (n : Int64) : Int64 := cst (qg_l h 46 0 p) (qg_l h 46 0 (p + 1)) k (fun j => qg_l h 46 0 (p + 3 + 3 * j)) (fun j => qg_l h 46 0 (p + 4 + 3 * j)) (fun j => qg_l h 46 0 (p + 5 + 3 * j)) n (k + 1) 0 0 0
theorem lp_X8_costOf {p k : Nat} {n : Int64} (hS : SHR h) (hp : p + 18 ≤ 4752) (hk : k < 5) (hz : ¬ qg_l h 46 0 (p + 1) = 0) {n0 : Nat → Nat} {Post : Option qV → qH → Prop} :
    ∀ (m j : Nat), j + m = k + 1 → ∀ sum be, Post (some (.inr (.inl (cst (qg_l h 46 0 p) (qg_l h 46 0 (p + 1)) k (fun j => qg_l h 46 0 (p + 3 + 3 * j)) (fun j => qg_l h 46 0 (p + 4 + 3 * j)) (fun j => qg_l h 46 0 (p + 5 + 3 * j)) n m j sum be)))) h →
      Vw yX8_costOf cX8_costOf 20 ((some .long)) (qrm 1 23 0 0) 0 0 n0 Post 20 [(0, .inr (.inr (some (33, 0)))), (1, .inl (nI p)), (2, .inr (.inl n)), (4, .inr (.inl sum)), (6, .inr (.inl be)), (8, .inl (nI (k + 1))), (9, .inl (nI j))] [] h 0 0 := by
  intro m
  induction m with
  | zero =>
    intro j hj sum be hP
    have hj : j = k + 1 := by omega
    subst hj
    refine V_iload 22 dX8_costOf_20 rfl rfl ?_
    refine V_iload 24 dX8_costOf_22 rfl rfl ?_
    refine V_icmp_ge 185 27 dX8_costOf_24 rfl rfl (fun c_24 => ?_) (fun c_24 => ?_)
    · skip
      refine V_lload 187 dX8_costOf_185 rfl rfl ?_
      refine V_lret dX8_costOf_187 rfl ?_ (by first | exact Nat.le_refl _ | decide | omega) (by first | exact Nat.le_refl _ | decide | omega)
      exact hP
    · skip
      exact absurd (nI_le (Nat.le_refl _) (by omega)) c_24
  | succ m ih =>
    intro j hj sum be hP
    have e3 : nI p + 3 + 3 * nI j = nI (p + 3 + 3 * j) := by rw [show (3 : Int32) = nI 3 from rfl, nI_add, pk_mul, nI_add]
    have e4 : nI p + 4 + 3 * nI j = nI (p + 4 + 3 * j) := by rw [show (3 : Int32) = nI 3 from rfl, show (4 : Int32) = nI 4 from rfl, nI_add, pk_mul, nI_add]
    have e5 : nI p + 5 + 3 * nI j = nI (p + 5 + 3 * j) := by rw [show (3 : Int32) = nI 3 from rfl, show (5 : Int32) = nI 5 from rfl, nI_add, pk_mul, nI_add]
    have ek : nI j = nI k ↔ j = k := nI_eq (by omega) (by omega)
    have hP2 : be < n → ∀ S B, S = cst1 (qg_l h 46 0 p) (qg_l h 46 0 (p + 1)) n (qg_l h 46 0 (p + 4 + 3 * j)) (qg_l h 46 0 (p + 5 + 3 * j)) ((if j = k then n else m_min n (qg_l h 46 0 (p + 3 + 3 * j))) - be) sum → B = (if j = k then n else m_min n (qg_l h 46 0 (p + 3 + 3 * j))) → Post (some (.inr (.inl (cst (qg_l h 46 0 p) (qg_l h 46 0 (p + 1)) k (fun j => qg_l h 46 0 (p + 3 + 3 * j)) (fun j => qg_l h 46 0 (p + 4 + 3 * j)) (fun j => qg_l h 46 0 (p + 5 + 3 * j)) n m (j + 1) S B)))) h := by
      intro hb S B e1 e2
      rw [e1, e2]
      rw [cst, if_pos hb] at hP
      exact hP
    have hP3 : ¬ be < n → Post (some (.inr (.inl sum))) h := by
      intro hb
      rw [cst, if_neg hb] at hP
      exact hP
    clear hP
    refine V_iload 22 dX8_costOf_20 rfl rfl ?_
    refine V_iload 24 dX8_costOf_22 rfl rfl ?_
    refine V_icmp_ge 185 27 dX8_costOf_24 rfl rfl (fun c_24 => ?_) (fun c_24 => ?_)
    · skip
      exact absurd c_24 (nI_ge (by omega) (by omega))
    · skip
      refine V_lload 29 dX8_costOf_27 rfl rfl ?_
      refine V_lload_n 30 dX8_costOf_29 rfl rfl ?_
      refine V_lcmp 31 dX8_costOf_30 rfl ?_
      refine V_if_ge 185 34 dX8_costOf_31 rfl rfl (fun c_31 => ?_) (fun c_31 => ?_)
      · (rw [lg_ge] at c_31)
        refine V_lload 187 dX8_costOf_185 rfl rfl ?_
        refine V_lret dX8_costOf_187 rfl ?_ (by first | exact Nat.le_refl _ | decide | omega) (by first | exact Nat.le_refl _ | decide | omega)
        exact hP3 (by grind)
      · (rw [lg_ge] at c_31)
        refine V_iload 36 dX8_costOf_34 rfl rfl ?_
        refine V_iload 38 dX8_costOf_36 rfl rfl ?_
        refine V_iconst (v := 1) 39 dX8_costOf_38 rfl (by decide) ?_
        refine V_isub 40 dX8_costOf_39 rfl ?_
        rw [nI_pred]
        refine V_icmp_ne 47 43 dX8_costOf_40 rfl rfl (fun c_40 => ?_) (fun c_40 => ?_)
        · skip
          refine V_lload_n 48 dX8_costOf_47 rfl rfl ?_
          refine V_aload_n 49 dX8_costOf_48 rfl rfl ?_
          refine V_getR 52 8 16 fl_X8_131 dX8_costOf_49 rfl rfl (by decide) (Or.inr ⟨_, rfl⟩) (by decide) (sr_16 hS) ?_
          refine V_iload_n 53 dX8_costOf_52 rfl rfl ?_
          refine V_iconst (v := 3) 54 dX8_costOf_53 rfl (by decide) ?_
          refine V_iadd 55 dX8_costOf_54 rfl ?_
          refine V_iconst (v := 3) 56 dX8_costOf_55 rfl (by decide) ?_
          refine V_iload 58 dX8_costOf_56 rfl rfl ?_
          refine V_imul 59 dX8_costOf_58 rfl ?_
          refine V_iadd 60 dX8_costOf_59 rfl ?_
          refine V_laldN 61 (p + 3 + 3 * j) dX8_costOf_60 rfl rfl (by decide) e3 (show _ < 4752 by omega) (by decide) ?_
          refine V_cS2l 64 (ct_J9_min_f86c9 _ _ _) cs_X8_109 dX8_costOf_61 rfl ⟨Nat.le_of_ble_eq_true rfl, Nat.le_of_ble_eq_true rfl⟩ (Nat.le_of_ble_eq_true rfl) ⟨Nat.le_of_ble_eq_true rfl, Nat.le_of_ble_eq_true rfl⟩ (fun x h' hx hle => ?_)
          obtain ⟨rfl, rfl⟩ := hx
          refine V_lstore 66 dX8_costOf_64 rfl (by decide) ?_
          refine V_lload 68 dX8_costOf_66 rfl rfl ?_
          refine V_lload 70 dX8_costOf_68 rfl rfl ?_
          refine V_lsub 71 dX8_costOf_70 rfl ?_
          refine V_lstore 73 dX8_costOf_71 rfl (by decide) ?_
          refine V_aload_n 74 dX8_costOf_73 rfl rfl ?_
          refine V_getR 77 8 16 fl_X8_131 dX8_costOf_74 rfl rfl (by decide) (Or.inr ⟨_, rfl⟩) (by decide) (sr_16 hS) ?_
          refine V_iload_n 78 dX8_costOf_77 rfl rfl ?_
          refine V_iconst (v := 4) 79 dX8_costOf_78 rfl (by decide) ?_
          refine V_iadd 80 dX8_costOf_79 rfl ?_
          refine V_iconst (v := 3) 81 dX8_costOf_80 rfl (by decide) ?_
          refine V_iload 83 dX8_costOf_81 rfl rfl ?_
          refine V_imul 84 dX8_costOf_83 rfl ?_
          refine V_iadd 85 dX8_costOf_84 rfl ?_
          refine V_laldN 86 (p + 4 + 3 * j) dX8_costOf_85 rfl rfl (by decide) e4 (show _ < 4752 by omega) (by decide) ?_
          refine V_lstore 88 dX8_costOf_86 rfl (by decide) ?_
          refine V_aload_n 89 dX8_costOf_88 rfl rfl ?_
          refine V_getR 92 8 16 fl_X8_131 dX8_costOf_89 rfl rfl (by decide) (Or.inr ⟨_, rfl⟩) (by decide) (sr_16 hS) ?_
          refine V_iload_n 93 dX8_costOf_92 rfl rfl ?_
          refine V_iconst (v := 5) 94 dX8_costOf_93 rfl (by decide) ?_
          refine V_iadd 95 dX8_costOf_94 rfl ?_
          refine V_iconst (v := 3) 96 dX8_costOf_95 rfl (by decide) ?_
          refine V_iload 98 dX8_costOf_96 rfl rfl ?_
          refine V_imul 99 dX8_costOf_98 rfl ?_
          refine V_iadd 100 dX8_costOf_99 rfl ?_
          refine V_laldN 101 (p + 5 + 3 * j) dX8_costOf_100 rfl rfl (by decide) e5 (show _ < 4752 by omega) (by decide) ?_
          refine V_lstore 103 dX8_costOf_101 rfl (by decide) ?_
          refine V_aload_n 104 dX8_costOf_103 rfl rfl ?_
          refine V_getR 107 8 16 fl_X8_131 dX8_costOf_104 rfl rfl (by decide) (Or.inr ⟨_, rfl⟩) (by decide) (sr_16 hS) ?_
          refine V_iload_n 108 dX8_costOf_107 rfl rfl ?_
          refine V_laldN 109 (_) dX8_costOf_108 rfl rfl (by decide) rfl (show _ < 4752 by omega) (by decide) ?_
          refine V_lconst (v := 1) 110 dX8_costOf_109 rfl (by decide) ?_
          refine V_lcmp 111 dX8_costOf_110 rfl ?_
          refine V_if_ne 126 114 dX8_costOf_111 rfl rfl (fun c_111 => ?_) (fun c_111 => ?_)
          · (rw [lg_eq] at c_111)
            refine V_aload_n 127 dX8_costOf_126 rfl rfl ?_
            refine V_getR 130 8 16 fl_X8_131 dX8_costOf_127 rfl rfl (by decide) (Or.inr ⟨_, rfl⟩) (by decide) (sr_16 hS) ?_
            refine V_iload_n 131 dX8_costOf_130 rfl rfl ?_
            refine V_iconst (v := 1) 132 dX8_costOf_131 rfl (by decide) ?_
            refine V_iadd 133 dX8_costOf_132 rfl ?_
            refine V_laldN 134 (p + 1) dX8_costOf_133 rfl rfl (by decide) (nI_1 p) (show _ < 4752 by omega) (by decide) ?_
            refine V_lstore 136 dX8_costOf_134 rfl (by decide) ?_
            refine V_lload 138 dX8_costOf_136 rfl rfl ?_
            refine V_aload_n 139 dX8_costOf_138 rfl rfl ?_
            refine V_getR 142 8 16 fl_X8_131 dX8_costOf_139 rfl rfl (by decide) (Or.inr ⟨_, rfl⟩) (by decide) (sr_16 hS) ?_
            refine V_iload_n 143 dX8_costOf_142 rfl rfl ?_
            refine V_laldN 144 (_) dX8_costOf_143 rfl rfl (by decide) rfl (show _ < 4752 by omega) (by decide) ?_
            refine V_ldc2 (v := 2) 147 dX8_costOf_144 rfl wc_X8_183 ?_
            refine V_lcmp 148 dX8_costOf_147 rfl ?_
            refine V_if_ne 164 151 dX8_costOf_148 rfl rfl (fun c_148 => ?_) (fun c_148 => ?_)
            · (rw [lg_eq] at c_148)
              refine V_lload 166 dX8_costOf_164 rfl rfl ?_
              refine V_lload 168 dX8_costOf_166 rfl rfl ?_
              refine V_lmul 169 dX8_costOf_168 rfl ?_
              refine V_lload 171 dX8_costOf_169 rfl rfl ?_
              refine V_ladd 172 dX8_costOf_171 rfl ?_
              refine V_ladd 173 dX8_costOf_172 rfl ?_
              refine V_lstore 175 dX8_costOf_173 rfl (by decide) ?_
              refine V_lload 177 dX8_costOf_175 rfl rfl ?_
              refine V_lstore 179 dX8_costOf_177 rfl (by decide) ?_
              refine V_iincN 182 dX8_costOf_179 rfl rfl (by decide) ?_
              refine V_goto 20 dX8_costOf_182 rfl ?_
              refine V_at (ih (j + 1) (by omega) _ _ (hP2 (by grind) _ _ ?_ ?_)) ⟨rfl, rfl, rfl, rfl, rfl, rfl, rfl, trivial⟩
              · simp only [cst1, m_min]
                grind
              · simp only [m_min]
                grind
            · (rw [lg_eq] at c_148)
              refine V_lload 153 dX8_costOf_151 rfl rfl ?_
              refine V_lload 155 dX8_costOf_153 rfl rfl ?_
              refine V_ladd 156 dX8_costOf_155 rfl ?_
              refine V_lconst (v := 1) 157 dX8_costOf_156 rfl (by decide) ?_
              refine V_lsub 158 dX8_costOf_157 rfl ?_
              refine V_lload 160 dX8_costOf_158 rfl rfl ?_
              refine V_ldiv 161 dX8_costOf_160 rfl hz ?_
              refine V_goto 166 dX8_costOf_161 rfl ?_
              refine V_lload 168 dX8_costOf_166 rfl rfl ?_
              refine V_lmul 169 dX8_costOf_168 rfl ?_
              refine V_lload 171 dX8_costOf_169 rfl rfl ?_
              refine V_ladd 172 dX8_costOf_171 rfl ?_
              refine V_ladd 173 dX8_costOf_172 rfl ?_
              refine V_lstore 175 dX8_costOf_173 rfl (by decide) ?_
              refine V_lload 177 dX8_costOf_175 rfl rfl ?_
              refine V_lstore 179 dX8_costOf_177 rfl (by decide) ?_
              refine V_iincN 182 dX8_costOf_179 rfl rfl (by decide) ?_
              refine V_goto 20 dX8_costOf_182 rfl ?_
              refine V_at (ih (j + 1) (by omega) _ _ (hP2 (by grind) _ _ ?_ ?_)) ⟨rfl, rfl, rfl, rfl, rfl, rfl, rfl, trivial⟩
              · simp only [cst1, m_min]
                grind
              · simp only [m_min]
                grind
          · (rw [lg_eq] at c_111)
            refine V_lload_n 115 dX8_costOf_114 rfl rfl ?_
            refine V_lload 117 dX8_costOf_115 rfl rfl ?_
            refine V_lmul 118 dX8_costOf_117 rfl ?_
            refine V_lload 120 dX8_costOf_118 rfl rfl ?_
            refine V_ladd 121 dX8_costOf_120 rfl ?_
            refine V_lstore 123 dX8_costOf_121 rfl (by decide) ?_
            refine V_goto 175 dX8_costOf_123 rfl ?_
            refine V_lload 177 dX8_costOf_175 rfl rfl ?_
            refine V_lstore 179 dX8_costOf_177 rfl (by decide) ?_
            refine V_iincN 182 dX8_costOf_179 rfl rfl (by decide) ?_
            refine V_goto 20 dX8_costOf_182 rfl ?_
            refine V_at (ih (j + 1) (by omega) _ _ (hP2 (by grind) _ _ ?_ ?_)) ⟨rfl, rfl, rfl, rfl, rfl, rfl, rfl, trivial⟩
            · simp only [cst1, m_min]
              grind
            · simp only [m_min]
              grind
        · skip
          refine V_lload_n 44 dX8_costOf_43 rfl rfl ?_
          refine V_goto 64 dX8_costOf_44 rfl ?_
          refine V_lstore 66 dX8_costOf_64 rfl (by decide) ?_
          refine V_lload 68 dX8_costOf_66 rfl rfl ?_
          refine V_lload 70 dX8_costOf_68 rfl rfl ?_
          refine V_lsub 71 dX8_costOf_70 rfl ?_
          refine V_lstore 73 dX8_costOf_71 rfl (by decide) ?_
          refine V_aload_n 74 dX8_costOf_73 rfl rfl ?_
          refine V_getR 77 8 16 fl_X8_131 dX8_costOf_74 rfl rfl (by decide) (Or.inr ⟨_, rfl⟩) (by decide) (sr_16 hS) ?_
          refine V_iload_n 78 dX8_costOf_77 rfl rfl ?_
          refine V_iconst (v := 4) 79 dX8_costOf_78 rfl (by decide) ?_
          refine V_iadd 80 dX8_costOf_79 rfl ?_
          refine V_iconst (v := 3) 81 dX8_costOf_80 rfl (by decide) ?_
          refine V_iload 83 dX8_costOf_81 rfl rfl ?_
          refine V_imul 84 dX8_costOf_83 rfl ?_
          refine V_iadd 85 dX8_costOf_84 rfl ?_
          refine V_laldN 86 (p + 4 + 3 * j) dX8_costOf_85 rfl rfl (by decide) e4 (show _ < 4752 by omega) (by decide) ?_
          refine V_lstore 88 dX8_costOf_86 rfl (by decide) ?_
          refine V_aload_n 89 dX8_costOf_88 rfl rfl ?_
          refine V_getR 92 8 16 fl_X8_131 dX8_costOf_89 rfl rfl (by decide) (Or.inr ⟨_, rfl⟩) (by decide) (sr_16 hS) ?_
          refine V_iload_n 93 dX8_costOf_92 rfl rfl ?_
          refine V_iconst (v := 5) 94 dX8_costOf_93 rfl (by decide) ?_
          refine V_iadd 95 dX8_costOf_94 rfl ?_
          refine V_iconst (v := 3) 96 dX8_costOf_95 rfl (by decide) ?_
          refine V_iload 98 dX8_costOf_96 rfl rfl ?_
          refine V_imul 99 dX8_costOf_98 rfl ?_
          refine V_iadd 100 dX8_costOf_99 rfl ?_
          refine V_laldN 101 (p + 5 + 3 * j) dX8_costOf_100 rfl rfl (by decide) e5 (show _ < 4752 by omega) (by decide) ?_
          refine V_lstore 103 dX8_costOf_101 rfl (by decide) ?_
          refine V_aload_n 104 dX8_costOf_103 rfl rfl ?_
          refine V_getR 107 8 16 fl_X8_131 dX8_costOf_104 rfl rfl (by decide) (Or.inr ⟨_, rfl⟩) (by decide) (sr_16 hS) ?_
          refine V_iload_n 108 dX8_costOf_107 rfl rfl ?_
          refine V_laldN 109 (_) dX8_costOf_108 rfl rfl (by decide) rfl (show _ < 4752 by omega) (by decide) ?_
          refine V_lconst (v := 1) 110 dX8_costOf_109 rfl (by decide) ?_
          refine V_lcmp 111 dX8_costOf_110 rfl ?_
          refine V_if_ne 126 114 dX8_costOf_111 rfl rfl (fun c_111 => ?_) (fun c_111 => ?_)
          · (rw [lg_eq] at c_111)
            refine V_aload_n 127 dX8_costOf_126 rfl rfl ?_
            refine V_getR 130 8 16 fl_X8_131 dX8_costOf_127 rfl rfl (by decide) (Or.inr ⟨_, rfl⟩) (by decide) (sr_16 hS) ?_
            refine V_iload_n 131 dX8_costOf_130 rfl rfl ?_
            refine V_iconst (v := 1) 132 dX8_costOf_131 rfl (by decide) ?_
            refine V_iadd 133 dX8_costOf_132 rfl ?_
            refine V_laldN 134 (p + 1) dX8_costOf_133 rfl rfl (by decide) (nI_1 p) (show _ < 4752 by omega) (by decide) ?_
            refine V_lstore 136 dX8_costOf_134 rfl (by decide) ?_
            refine V_lload 138 dX8_costOf_136 rfl rfl ?_
            refine V_aload_n 139 dX8_costOf_138 rfl rfl ?_
            refine V_getR 142 8 16 fl_X8_131 dX8_costOf_139 rfl rfl (by decide) (Or.inr ⟨_, rfl⟩) (by decide) (sr_16 hS) ?_
            refine V_iload_n 143 dX8_costOf_142 rfl rfl ?_
            refine V_laldN 144 (_) dX8_costOf_143 rfl rfl (by decide) rfl (show _ < 4752 by omega) (by decide) ?_
            refine V_ldc2 (v := 2) 147 dX8_costOf_144 rfl wc_X8_183 ?_
            refine V_lcmp 148 dX8_costOf_147 rfl ?_
            refine V_if_ne 164 151 dX8_costOf_148 rfl rfl (fun c_148 => ?_) (fun c_148 => ?_)
            · (rw [lg_eq] at c_148)
              refine V_lload 166 dX8_costOf_164 rfl rfl ?_
              refine V_lload 168 dX8_costOf_166 rfl rfl ?_
              refine V_lmul 169 dX8_costOf_168 rfl ?_
              refine V_lload 171 dX8_costOf_169 rfl rfl ?_
              refine V_ladd 172 dX8_costOf_171 rfl ?_
              refine V_ladd 173 dX8_costOf_172 rfl ?_
              refine V_lstore 175 dX8_costOf_173 rfl (by decide) ?_
              refine V_lload 177 dX8_costOf_175 rfl rfl ?_
              refine V_lstore 179 dX8_costOf_177 rfl (by decide) ?_
              refine V_iincN 182 dX8_costOf_179 rfl rfl (by decide) ?_
              refine V_goto 20 dX8_costOf_182 rfl ?_
              refine V_at (ih (j + 1) (by omega) _ _ (hP2 (by grind) _ _ ?_ ?_)) ⟨rfl, rfl, rfl, rfl, rfl, rfl, rfl, trivial⟩
              · simp only [cst1, m_min]
                grind
              · simp only [m_min]
                grind
            · (rw [lg_eq] at c_148)
              refine V_lload 153 dX8_costOf_151 rfl rfl ?_
              refine V_lload 155 dX8_costOf_153 rfl rfl ?_
              refine V_ladd 156 dX8_costOf_155 rfl ?_
              refine V_lconst (v := 1) 157 dX8_costOf_156 rfl (by decide) ?_
              refine V_lsub 158 dX8_costOf_157 rfl ?_
              refine V_lload 160 dX8_costOf_158 rfl rfl ?_
              refine V_ldiv 161 dX8_costOf_160 rfl hz ?_
              refine V_goto 166 dX8_costOf_161 rfl ?_
              refine V_lload 168 dX8_costOf_166 rfl rfl ?_
              refine V_lmul 169 dX8_costOf_168 rfl ?_
              refine V_lload 171 dX8_costOf_169 rfl rfl ?_
              refine V_ladd 172 dX8_costOf_171 rfl ?_
              refine V_ladd 173 dX8_costOf_172 rfl ?_
              refine V_lstore 175 dX8_costOf_173 rfl (by decide) ?_
              refine V_lload 177 dX8_costOf_175 rfl rfl ?_
              refine V_lstore 179 dX8_costOf_177 rfl (by decide) ?_
              refine V_iincN 182 dX8_costOf_179 rfl rfl (by decide) ?_
              refine V_goto 20 dX8_costOf_182 rfl ?_
              refine V_at (ih (j + 1) (by omega) _ _ (hP2 (by grind) _ _ ?_ ?_)) ⟨rfl, rfl, rfl, rfl, rfl, rfl, rfl, trivial⟩
              · simp only [cst1, m_min]
                grind
              · simp only [m_min]
                grind
          · (rw [lg_eq] at c_111)
            refine V_lload_n 115 dX8_costOf_114 rfl rfl ?_
            refine V_lload 117 dX8_costOf_115 rfl rfl ?_
            refine V_lmul 118 dX8_costOf_117 rfl ?_
            refine V_lload 120 dX8_costOf_118 rfl rfl ?_
            refine V_ladd 121 dX8_costOf_120 rfl ?_
            refine V_lstore 123 dX8_costOf_121 rfl (by decide) ?_
            refine V_goto 175 dX8_costOf_123 rfl ?_
            refine V_lload 177 dX8_costOf_175 rfl rfl ?_
            refine V_lstore 179 dX8_costOf_177 rfl (by decide) ?_
            refine V_iincN 182 dX8_costOf_179 rfl rfl (by decide) ?_
            refine V_goto 20 dX8_costOf_182 rfl ?_
            refine V_at (ih (j + 1) (by omega) _ _ (hP2 (by grind) _ _ ?_ ?_)) ⟨rfl, rfl, rfl, rfl, rfl, rfl, rfl, trivial⟩
            · simp only [cst1, m_min]
              grind
            · simp only [m_min]
              grind
theorem ct_X8_costOf {p k : Nat} {n : Int64} (hS : SHR h) (hp : p + 18 ≤ 4752) (hk : k < 5) (hz : ¬ qg_l h 46 0 (p + 1) = 0) (he : (qg_l h 46 0 (p + 2)).toInt32 = nI (k + 1)) : qM yX8_costOf cX8_costOf 20 ((some .long)) 1 23 0 0 [.inr (.inr (some (33, 0))), .inl (nI p), .inr (.inl n)] h (pL fun x h' => x = m_cost h p k n ∧ h' = h) := by
  refine qM.of (plainFor_of_name (by decide)) (Nat.le_of_ble_eq_true rfl) ?_
  refine V_lconst (v := 0) 1 dX8_costOf_0 rfl (by decide) ?_
  refine V_lstore 3 dX8_costOf_1 rfl (by decide) ?_
  refine V_lconst (v := 0) 4 dX8_costOf_3 rfl (by decide) ?_
  refine V_lstore 6 dX8_costOf_4 rfl (by decide) ?_
  refine V_aload_n 7 dX8_costOf_6 rfl rfl ?_
  refine V_getR 10 8 16 fl_X8_131 dX8_costOf_7 rfl rfl (by decide) (Or.inr ⟨_, rfl⟩) (by decide) (sr_16 hS) ?_
  refine V_iload_n 11 dX8_costOf_10 rfl rfl ?_
  refine V_iconst (v := 2) 12 dX8_costOf_11 rfl (by decide) ?_
  refine V_iadd 13 dX8_costOf_12 rfl ?_
  refine V_laldN 14 (p + 2) dX8_costOf_13 rfl rfl (by decide) (nI_add p 2) (show _ < 4752 by omega) (by decide) ?_
  refine V_l2i 15 dX8_costOf_14 rfl ?_
  rw [he]
  refine V_istore 17 dX8_costOf_15 rfl (by decide) ?_
  refine V_iconst (v := 0) 18 dX8_costOf_17 rfl (by decide) ?_
  refine V_istore 20 dX8_costOf_18 rfl (by decide) ?_
  exact V_at (lp_X8_costOf hS hp hk hz (k + 1) 0 (by omega) 0 0 ⟨_, rfl, rfl, rfl⟩) ⟨rfl, rfl, rfl, rfl, rfl, rfl, rfl, trivial⟩
theorem ct_X8_cost_ok {t r k : Nat} {n : Int64} (hS : SHR h) (ht : t < 6) (hr : r < 4) (hk : k < 5) (hz : ¬ qg_l h 46 0 (18 * (4 * t + r) + 1) = 0) (he : (qg_l h 46 0 (18 * (4 * t + r) + 2)).toInt32 = nI (k + 1)) (hn : 0 ≤ n ∧ n ≤ 10000000000) : qM yX8_cost cX8_cost 5 ((some .long)) 2 62 0 0 [.inr (.inr (some (33, 0))), .inl (nI t), .inl (nI r), .inr (.inl n)] h (pL fun x h' => x = m_cost h (18 * (4 * t + r)) k n ∧ h' = h) := by
  refine qM.of (plainFor_of_name (by decide)) (Nat.le_of_ble_eq_true rfl) ?_
  refine V_iload_n 1 dX8_cost_0 rfl rfl ?_
  refine V_cS1i 4 (ct_isTen_ok ht) cs_X8_7 dX8_cost_1 rfl ⟨Nat.le_of_ble_eq_true rfl, Nat.le_of_ble_eq_true rfl⟩ (Nat.le_of_ble_eq_true rfl) ⟨Nat.le_of_ble_eq_true rfl, Nat.le_of_ble_eq_true rfl⟩ (fun x h' hx hle => ?_)
  obtain ⟨rfl, rfl⟩ := hx
  refine V_if_eq 41 7 dX8_cost_4 rfl rfl (fun c_4 => ?_) (fun c_4 => ?_)
  · skip
    exact absurd c_4 (by decide)
  · skip
    refine V_iload_n 8 dX8_cost_7 rfl rfl ?_
    refine V_cS1i 11 (ct_isRes_ok hr) cs_X8_28 dX8_cost_8 rfl ⟨Nat.le_of_ble_eq_true rfl, Nat.le_of_ble_eq_true rfl⟩ (Nat.le_of_ble_eq_true rfl) ⟨Nat.le_of_ble_eq_true rfl, Nat.le_of_ble_eq_true rfl⟩ (fun x h' hx hle => ?_)
    obtain ⟨rfl, rfl⟩ := hx
    refine V_if_eq 41 14 dX8_cost_11 rfl rfl (fun c_11 => ?_) (fun c_11 => ?_)
    · skip
      exact absurd c_11 (by decide)
    · skip
      refine V_lload_n 15 dX8_cost_14 rfl rfl ?_
      refine V_lconst (v := 0) 16 dX8_cost_15 rfl (by decide) ?_
      refine V_lcmp 17 dX8_cost_16 rfl ?_
      refine V_if_lt 41 20 dX8_cost_17 rfl rfl (fun c_17 => ?_) (fun c_17 => ?_)
      · (rw [lg_lt] at c_17)
        grind
      · (rw [lg_lt] at c_17)
        refine V_lload_n 21 dX8_cost_20 rfl rfl ?_
        refine V_ldc2 (v := 10000000000) 24 dX8_cost_21 rfl wc_X8_177 ?_
        refine V_lcmp 25 dX8_cost_24 rfl ?_
        refine V_if_gt 41 28 dX8_cost_25 rfl rfl (fun c_25 => ?_) (fun c_25 => ?_)
        · (rw [lg_gt] at c_25)
          grind
        · (rw [lg_gt] at c_25)
          refine V_aload_n 29 dX8_cost_28 rfl rfl ?_
          refine V_iload_n 30 dX8_cost_29 rfl rfl ?_
          refine V_iload_n 31 dX8_cost_30 rfl rfl ?_
          refine V_cS2i 34 (ct_X8_row _ _ _) cs_X8_174 dX8_cost_31 rfl ⟨Nat.le_of_ble_eq_true rfl, Nat.le_of_ble_eq_true rfl⟩ (Nat.le_of_ble_eq_true rfl) ⟨Nat.le_of_ble_eq_true rfl, Nat.le_of_ble_eq_true rfl⟩ (fun x h' hx hle => ?_)
          obtain ⟨rfl, rfl⟩ := hx
          refine V_lload_n 35 dX8_cost_34 rfl rfl ?_
          refine V_cV2l 38 (ct_X8_costOf hS (by omega) hk hz he) cs_X8_179 rfl rfl (by decide) dX8_cost_35 rfl ⟨Nat.le_of_ble_eq_true rfl, Nat.le_of_ble_eq_true rfl⟩ (Nat.le_of_ble_eq_true rfl) ⟨Nat.le_of_ble_eq_true rfl, Nat.le_of_ble_eq_true rfl⟩ (fun x h' hx hle => ?_)
          obtain ⟨rfl, rfl⟩ := hx
          refine V_goto 44 dX8_cost_38 rfl ?_
          refine V_lret dX8_cost_44 rfl ⟨_, rfl, ?_⟩ (by first | exact Nat.le_refl _ | decide | omega) (by first | exact Nat.le_refl _ | decide | omega)
          exact ⟨rfl, rfl⟩
theorem ct_X8_cost_bad {t r : Int32} {n : Int64} (hbad : ¬ ((0 ≤ t ∧ t < 6) ∧ (0 ≤ r ∧ r < 4) ∧ (0 ≤ n ∧ n ≤ 10000000000))) : qM yX8_cost cX8_cost 5 ((some .long)) 2 62 0 0 [.inr (.inr (some (33, 0))), .inl t, .inl r, .inr (.inl n)] h (pL fun x h' => x = -2 ∧ h' = h) := by
  refine qM.of (plainFor_of_name (by decide)) (Nat.le_of_ble_eq_true rfl) ?_
  refine V_iload_n 1 dX8_cost_0 rfl rfl ?_
  refine V_cS1i 4 (ct_X8_isTenant _ _) cs_X8_7 dX8_cost_1 rfl ⟨Nat.le_of_ble_eq_true rfl, Nat.le_of_ble_eq_true rfl⟩ (Nat.le_of_ble_eq_true rfl) ⟨Nat.le_of_ble_eq_true rfl, Nat.le_of_ble_eq_true rfl⟩ (fun x h' hx hle => ?_)
  obtain ⟨rfl, rfl⟩ := hx
  refine V_if_eq 41 7 dX8_cost_4 rfl rfl (fun c_4 => ?_) (fun c_4 => ?_)
  · skip
    refine V_ldc2 (v := -2) 44 dX8_cost_41 rfl wc_X8_75 ?_
    refine V_lret dX8_cost_44 rfl ⟨_, rfl, ?_⟩ (by first | exact Nat.le_refl _ | decide | omega) (by first | exact Nat.le_refl _ | decide | omega)
    exact ⟨rfl, rfl⟩
  · skip
    refine V_iload_n 8 dX8_cost_7 rfl rfl ?_
    refine V_cS1i 11 (ct_X8_isResource _ _) cs_X8_28 dX8_cost_8 rfl ⟨Nat.le_of_ble_eq_true rfl, Nat.le_of_ble_eq_true rfl⟩ (Nat.le_of_ble_eq_true rfl) ⟨Nat.le_of_ble_eq_true rfl, Nat.le_of_ble_eq_true rfl⟩ (fun x h' hx hle => ?_)
    obtain ⟨rfl, rfl⟩ := hx
    refine V_if_eq 41 14 dX8_cost_11 rfl rfl (fun c_11 => ?_) (fun c_11 => ?_)
    · skip
      refine V_ldc2 (v := -2) 44 dX8_cost_41 rfl wc_X8_75 ?_
      refine V_lret dX8_cost_44 rfl ⟨_, rfl, ?_⟩ (by first | exact Nat.le_refl _ | decide | omega) (by first | exact Nat.le_refl _ | decide | omega)
      exact ⟨rfl, rfl⟩
    · skip
      refine V_lload_n 15 dX8_cost_14 rfl rfl ?_
      refine V_lconst (v := 0) 16 dX8_cost_15 rfl (by decide) ?_
      refine V_lcmp 17 dX8_cost_16 rfl ?_
      refine V_if_lt 41 20 dX8_cost_17 rfl rfl (fun c_17 => ?_) (fun c_17 => ?_)
      · (rw [lg_lt] at c_17)
        refine V_ldc2 (v := -2) 44 dX8_cost_41 rfl wc_X8_75 ?_
        refine V_lret dX8_cost_44 rfl ⟨_, rfl, ?_⟩ (by first | exact Nat.le_refl _ | decide | omega) (by first | exact Nat.le_refl _ | decide | omega)
        exact ⟨rfl, rfl⟩
      · (rw [lg_lt] at c_17)
        refine V_lload_n 21 dX8_cost_20 rfl rfl ?_
        refine V_ldc2 (v := 10000000000) 24 dX8_cost_21 rfl wc_X8_177 ?_
        refine V_lcmp 25 dX8_cost_24 rfl ?_
        refine V_if_gt 41 28 dX8_cost_25 rfl rfl (fun c_25 => ?_) (fun c_25 => ?_)
        · (rw [lg_gt] at c_25)
          refine V_ldc2 (v := -2) 44 dX8_cost_41 rfl wc_X8_75 ?_
          refine V_lret dX8_cost_44 rfl ⟨_, rfl, ?_⟩ (by first | exact Nat.le_refl _ | decide | omega) (by first | exact Nat.le_refl _ | decide | omega)
          exact ⟨rfl, rfl⟩
        · (rw [lg_gt] at c_25)
          exfalso; grind
/-- a tenant's quantity of r in p -/
def m_qty (h : qH) (na : Nat) (t : Int32) (r p : Nat) : Int64 := sm_l (fun a => if qg_i h 34 0 a = t then qg_l h 37 0 ((4 * a + r) * 100 + p) else 0) na
theorem lp_X8_quantity {na r p : Nat} {t : Int32} (hS : SHR h) (e : qg_i h 33 0 1 = nI na) (hna : na ≤ 24) (hr : r < 4) (hpp : p < 100) {n0 : Nat → Nat} {Post : Option qV → qH → Prop} (hP : Post (some (.inr (.inl (m_qty h na t r p)))) h) :
    ∀ (m i : Nat), i + m = na → Vw yX8_quantity cX8_quantity 7 ((some .long)) (qrm 1 22 0 0) 0 0 n0 Post 6 [(0, .inr (.inr (some (33, 0)))), (1, .inl t), (2, .inl (nI r)), (3, .inl (nI p)), (4, .inr (.inl (m_qty h i t r p))), (6, .inl (nI i))] [] h 0 0 := by
  intro m
  induction m with
  | zero =>
    intro i hi
    have hi : i = na := by omega
    subst hi
    refine V_iload 8 dX8_quantity_6 rfl rfl ?_
    refine V_aload_n 9 dX8_quantity_8 rfl rfl ?_
    refine V_getiV 12 8 1 fl_X8_3 dX8_quantity_9 rfl rfl (by decide) rfl (by decide) e ?_
    refine V_icmp_ge 53 15 dX8_quantity_12 rfl rfl (fun c_12 => ?_) (fun c_12 => ?_)
    · skip
      refine V_lload 55 dX8_quantity_53 rfl rfl ?_
      refine V_lret dX8_quantity_55 rfl ?_ (by first | exact Nat.le_refl _ | decide | omega) (by first | exact Nat.le_refl _ | decide | omega)
      exact hP
    · skip
      exact absurd (nI_le (Nat.le_refl _) (by omega)) c_12
  | succ m ih =>
    intro i hi
    refine V_iload 8 dX8_quantity_6 rfl rfl ?_
    refine V_aload_n 9 dX8_quantity_8 rfl rfl ?_
    refine V_getiV 12 8 1 fl_X8_3 dX8_quantity_9 rfl rfl (by decide) rfl (by decide) e ?_
    refine V_icmp_ge 53 15 dX8_quantity_12 rfl rfl (fun c_12 => ?_) (fun c_12 => ?_)
    · skip
      exact absurd c_12 (nI_ge (by omega) (by omega))
    · skip
      refine V_lload 17 dX8_quantity_15 rfl rfl ?_
      refine V_aload_n 18 dX8_quantity_17 rfl rfl ?_
      refine V_getR 21 8 2 fl_X8_14 dX8_quantity_18 rfl rfl (by decide) (Or.inr ⟨_, rfl⟩) (by decide) (sr_2 hS) ?_
      refine V_iload 23 dX8_quantity_21 rfl rfl ?_
      refine V_ialdN 24 (_) dX8_quantity_23 rfl rfl (by decide) rfl (show _ < 24 by omega) (by decide) ?_
      refine V_iload_n 25 dX8_quantity_24 rfl rfl ?_
      refine V_icmp_ne 43 28 dX8_quantity_25 rfl rfl (fun c_25 => ?_) (fun c_25 => ?_)
      · skip
        refine V_lconst (v := 0) 44 dX8_quantity_43 rfl (by decide) ?_
        refine V_ladd 45 dX8_quantity_44 rfl ?_
        refine V_lstore 47 dX8_quantity_45 rfl (by decide) ?_
        refine V_iincN 50 dX8_quantity_47 rfl rfl (by decide) ?_
        refine V_goto 6 dX8_quantity_50 rfl ?_
        refine V_at (ih (i + 1) (by omega)) ⟨rfl, rfl, rfl, rfl, ?_, rfl, trivial⟩
        show some _ = some _
        simp only [m_qty, sm_l]
        grind
      · skip
        refine V_aload_n 29 dX8_quantity_28 rfl rfl ?_
        refine V_getR 32 8 5 fl_X8_56 dX8_quantity_29 rfl rfl (by decide) (Or.inr ⟨_, rfl⟩) (by decide) (sr_5 hS) ?_
        refine V_iload 34 dX8_quantity_32 rfl rfl ?_
        refine V_iload_n 35 dX8_quantity_34 rfl rfl ?_
        refine V_iload_n 36 dX8_quantity_35 rfl rfl ?_
        refine V_cS3i 39 (ct_X8_cell _ _ _ _) cs_X8_59 dX8_quantity_36 rfl ⟨Nat.le_of_ble_eq_true rfl, Nat.le_of_ble_eq_true rfl⟩ (Nat.le_of_ble_eq_true rfl) ⟨Nat.le_of_ble_eq_true rfl, Nat.le_of_ble_eq_true rfl⟩ (fun x h' hx hle => ?_)
        obtain ⟨rfl, rfl⟩ := hx
        refine V_laldN 40 (_) dX8_quantity_39 rfl rfl (by decide) rfl (show _ < 9600 by omega) (by decide) ?_
        refine V_goto 44 dX8_quantity_40 rfl ?_
        refine V_ladd 45 dX8_quantity_44 rfl ?_
        refine V_lstore 47 dX8_quantity_45 rfl (by decide) ?_
        refine V_iincN 50 dX8_quantity_47 rfl rfl (by decide) ?_
        refine V_goto 6 dX8_quantity_50 rfl ?_
        refine V_at (ih (i + 1) (by omega)) ⟨rfl, rfl, rfl, rfl, ?_, rfl, trivial⟩
        show some _ = some _
        simp only [m_qty, sm_l]
        grind
theorem ct_X8_quantity {na r p : Nat} {t : Int32} (hS : SHR h) (e : qg_i h 33 0 1 = nI na) (hna : na ≤ 24) (hr : r < 4) (hpp : p < 100) : qM yX8_quantity cX8_quantity 7 ((some .long)) 1 22 0 0 [.inr (.inr (some (33, 0))), .inl t, .inl (nI r), .inl (nI p)] h (pL fun x h' => x = m_qty h na t r p ∧ h' = h) := by
  refine qM.of (plainFor_of_name (by decide)) (Nat.le_of_ble_eq_true rfl) ?_
  refine V_lconst (v := 0) 1 dX8_quantity_0 rfl (by decide) ?_
  refine V_lstore 3 dX8_quantity_1 rfl (by decide) ?_
  refine V_iconst (v := 0) 4 dX8_quantity_3 rfl (by decide) ?_
  refine V_istore 6 dX8_quantity_4 rfl (by decide) ?_
  exact V_at (lp_X8_quantity hS e hna hr hpp ⟨_, rfl, rfl, rfl⟩ na 0 (by omega)) ⟨rfl, rfl, rfl, rfl, rfl, rfl, trivial⟩
/-- the first invoice of that tenant and period -/
theorem lp_X8_invoiceOf {t p : Int32} {i0 : Nat} (hS : SHR h) (hi0 : i0 < 60) (h1 : qg_i h 57 0 i0 = t ∧ qg_i h 58 0 i0 = p) (h2 : ∀ i, i < i0 → ¬ (qg_i h 57 0 i = t ∧ qg_i h 58 0 i = p)) {n0 : Nat → Nat} {Post : Option qV → qH → Prop} (hP : Post (some (.inl (nI i0))) h) :
    ∀ (m i : Nat), i + m = i0 → Vw yX8_invoiceOf cX8_invoiceOf 4 ((some .int)) (qrm 0 0 0 0) 0 0 n0 Post 2 [(0, .inr (.inr (some (33, 0)))), (1, .inl t), (2, .inl p), (3, .inl (nI i))] [] h 0 0 := by
  intro m
  induction m with
  | zero =>
    intro i hi
    have hi : i = i0 := by omega
    subst hi
    refine V_aload_n 3 dX8_invoiceOf_2 rfl rfl ?_
    refine V_getR 6 8 28 fl_X8_161 dX8_invoiceOf_3 rfl rfl (by decide) (Or.inr ⟨_, rfl⟩) (by decide) (sr_28 hS) ?_
    refine V_iload_n 7 dX8_invoiceOf_6 rfl rfl ?_
    refine V_ialdN 8 (_) dX8_invoiceOf_7 rfl rfl (by decide) rfl (show _ < 60 by omega) (by decide) ?_
    refine V_iload_n 9 dX8_invoiceOf_8 rfl rfl ?_
    refine V_icmp_ne 22 12 dX8_invoiceOf_9 rfl rfl (fun c_9 => ?_) (fun c_9 => ?_)
    · skip
      exact absurd h1.1 c_9
    · skip
      refine V_aload_n 13 dX8_invoiceOf_12 rfl rfl ?_
      refine V_getR 16 8 29 fl_X8_164 dX8_invoiceOf_13 rfl rfl (by decide) (Or.inr ⟨_, rfl⟩) (by decide) (sr_29 hS) ?_
      refine V_iload_n 17 dX8_invoiceOf_16 rfl rfl ?_
      refine V_ialdN 18 (_) dX8_invoiceOf_17 rfl rfl (by decide) rfl (show _ < 60 by omega) (by decide) ?_
      refine V_iload_n 19 dX8_invoiceOf_18 rfl rfl ?_
      refine V_icmp_eq 28 22 dX8_invoiceOf_19 rfl rfl (fun c_19 => ?_) (fun c_19 => ?_)
      · skip
        refine V_iload_n 29 dX8_invoiceOf_28 rfl rfl ?_
        refine V_iret dX8_invoiceOf_29 rfl rfl ?_ (by first | exact Nat.le_refl _ | decide | omega) (by first | exact Nat.le_refl _ | decide | omega)
        exact hP
      · skip
        exact absurd h1.2 c_19
  | succ m ih =>
    intro i hi
    have h3 := h2 i (by omega)
    refine V_aload_n 3 dX8_invoiceOf_2 rfl rfl ?_
    refine V_getR 6 8 28 fl_X8_161 dX8_invoiceOf_3 rfl rfl (by decide) (Or.inr ⟨_, rfl⟩) (by decide) (sr_28 hS) ?_
    refine V_iload_n 7 dX8_invoiceOf_6 rfl rfl ?_
    refine V_ialdN 8 (_) dX8_invoiceOf_7 rfl rfl (by decide) rfl (show _ < 60 by omega) (by decide) ?_
    refine V_iload_n 9 dX8_invoiceOf_8 rfl rfl ?_
    refine V_icmp_ne 22 12 dX8_invoiceOf_9 rfl rfl (fun c_9 => ?_) (fun c_9 => ?_)
    · skip
      refine V_iincN 25 dX8_invoiceOf_22 rfl rfl (by decide) ?_
      refine V_goto 2 dX8_invoiceOf_25 rfl ?_
      exact V_at (ih (i + 1) (by omega)) ⟨rfl, rfl, rfl, rfl, trivial⟩
    · skip
      refine V_aload_n 13 dX8_invoiceOf_12 rfl rfl ?_
      refine V_getR 16 8 29 fl_X8_164 dX8_invoiceOf_13 rfl rfl (by decide) (Or.inr ⟨_, rfl⟩) (by decide) (sr_29 hS) ?_
      refine V_iload_n 17 dX8_invoiceOf_16 rfl rfl ?_
      refine V_ialdN 18 (_) dX8_invoiceOf_17 rfl rfl (by decide) rfl (show _ < 60 by omega) (by decide) ?_
      refine V_iload_n 19 dX8_invoiceOf_18 rfl rfl ?_
      refine V_icmp_eq 28 22 dX8_invoiceOf_19 rfl rfl (fun c_19 => ?_) (fun c_19 => ?_)
      · skip
        exact absurd ⟨c_9, c_19⟩ h3
      · skip
        refine V_iincN 25 dX8_invoiceOf_22 rfl rfl (by decide) ?_
        refine V_goto 2 dX8_invoiceOf_25 rfl ?_
        exact V_at (ih (i + 1) (by omega)) ⟨rfl, rfl, rfl, rfl, trivial⟩
theorem ct_X8_invoiceOf {t p : Int32} {i0 : Nat} (hS : SHR h) (hi0 : i0 < 60) (h1 : qg_i h 57 0 i0 = t ∧ qg_i h 58 0 i0 = p) (h2 : ∀ i, i < i0 → ¬ (qg_i h 57 0 i = t ∧ qg_i h 58 0 i = p)) : qM yX8_invoiceOf cX8_invoiceOf 4 ((some .int)) 0 0 0 0 [.inr (.inr (some (33, 0))), .inl t, .inl p] h (pI fun x h' => x = nI i0 ∧ h' = h) := by
  refine qM.of (plainFor_of_name (by decide)) (Nat.le_of_ble_eq_true rfl) ?_
  refine V_iconst (v := 0) 1 dX8_invoiceOf_0 rfl (by decide) ?_
  refine V_istore_n 2 dX8_invoiceOf_1 rfl (by decide) ?_
  exact V_at (lp_X8_invoiceOf hS hi0 h1 h2 ⟨_, rfl, rfl, rfl⟩ i0 0 (by omega)) ⟨rfl, rfl, rfl, rfl, trivial⟩
def m_adj (h : qH) (k : Nat) (u x : Int64) : qH := qs_i (qs_l (qs_l h 54 0 k (qg_l h 54 0 k + u)) 55 0 k (qg_l h 55 0 k + x)) 56 0 k 1
theorem ct_X8_adjust {na t r p i0 k : Nat} {u : Int32} (hS : SHR h) (e : qg_i h 33 0 1 = nI na) (hna : na ≤ 24) (ht : t < 6) (hr : r < 4) (hpp : p < 100) (hi0 : i0 < 60) (h1 : qg_i h 57 0 i0 = nI t ∧ qg_i h 58 0 i0 = nI p) (h2 : ∀ i, i < i0 → ¬ (qg_i h 57 0 i = nI t ∧ qg_i h 58 0 i = nI p)) (hk : k < 5) (hz : ¬ qg_l h 46 0 (18 * (24 + 4 * i0 + r) + 1) = 0) (he : (qg_l h 46 0 (18 * (24 + 4 * i0 + r) + 2)).toInt32 = nI (k + 1)) :
    qM yX8_adjust cX8_adjust 9 none 2 62 0 0 [.inr (.inr (some (33, 0))), .inl (nI t), .inl (nI r), .inl (nI p), .inl u] h (pV fun h' => h' = m_adj h (4 * t + r) u.toInt64 (m_cost h (18 * (24 + 4 * i0 + r)) k (m_qty h na (nI t) r p + u.toInt64) - m_cost h (18 * (24 + 4 * i0 + r)) k (m_qty h na (nI t) r p))) := by
  have ep : (18 : Int32) * (24 + 4 * nI i0 + nI r) = nI (18 * (24 + 4 * i0 + r)) := by rw [show (18 : Int32) = nI 18 from rfl, show (24 : Int32) = nI 24 from rfl, show (4 : Int32) = nI 4 from rfl, pk_mul, nI_add, nI_add, pk_mul]
  have ek : (4 : Int32) * nI t + nI r = nI (4 * t + r) := by rw [show (4 : Int32) = nI 4 from rfl, pk_mul, nI_add]
  refine qM.of (plainFor_of_name (by decide)) (Nat.le_of_ble_eq_true rfl) ?_
  refine V_bipush (v := 18) 2 dX8_adjust_0 rfl (by decide) ?_
  refine V_bipush (v := 24) 4 dX8_adjust_2 rfl (by decide) ?_
  refine V_iconst (v := 4) 5 dX8_adjust_4 rfl (by decide) ?_
  refine V_aload_n 6 dX8_adjust_5 rfl rfl ?_
  refine V_iload_n 7 dX8_adjust_6 rfl rfl ?_
  refine V_iload_n 8 dX8_adjust_7 rfl rfl ?_
  refine V_cV2i 11 (ct_X8_invoiceOf hS hi0 h1 h2) cs_X8_190 rfl rfl (by decide) dX8_adjust_8 rfl ⟨Nat.le_of_ble_eq_true rfl, Nat.le_of_ble_eq_true rfl⟩ (Nat.le_of_ble_eq_true rfl) ⟨Nat.le_of_ble_eq_true rfl, Nat.le_of_ble_eq_true rfl⟩ (fun x h' hx hle => ?_)
  obtain ⟨rfl, rfl⟩ := hx
  refine V_imul 12 dX8_adjust_11 rfl ?_
  refine V_iadd 13 dX8_adjust_12 rfl ?_
  refine V_iload_n 14 dX8_adjust_13 rfl rfl ?_
  refine V_iadd 15 dX8_adjust_14 rfl ?_
  refine V_imul 16 dX8_adjust_15 rfl ?_
  rw [ep]
  refine V_istore 18 dX8_adjust_16 rfl (by decide) ?_
  refine V_aload_n 19 dX8_adjust_18 rfl rfl ?_
  refine V_iload_n 20 dX8_adjust_19 rfl rfl ?_
  refine V_iload_n 21 dX8_adjust_20 rfl rfl ?_
  refine V_iload_n 22 dX8_adjust_21 rfl rfl ?_
  refine V_cV3l 25 (ct_X8_quantity hS e hna hr hpp) cs_X8_193 rfl rfl (by decide) dX8_adjust_22 rfl ⟨Nat.le_of_ble_eq_true rfl, Nat.le_of_ble_eq_true rfl⟩ (Nat.le_of_ble_eq_true rfl) ⟨Nat.le_of_ble_eq_true rfl, Nat.le_of_ble_eq_true rfl⟩ (fun x h' hx hle => ?_)
  obtain ⟨rfl, rfl⟩ := hx
  refine V_lstore 27 dX8_adjust_25 rfl (by decide) ?_
  refine V_iconst (v := 4) 28 dX8_adjust_27 rfl (by decide) ?_
  refine V_iload_n 29 dX8_adjust_28 rfl rfl ?_
  refine V_imul 30 dX8_adjust_29 rfl ?_
  refine V_iload_n 31 dX8_adjust_30 rfl rfl ?_
  refine V_iadd 32 dX8_adjust_31 rfl ?_
  rw [ek]
  refine V_istore 34 dX8_adjust_32 rfl (by decide) ?_
  refine V_aload_n 35 dX8_adjust_34 rfl rfl ?_
  refine V_getR 38 8 24 fl_X8_152 dX8_adjust_35 rfl rfl (by decide) (Or.inr ⟨_, rfl⟩) (by decide) (sr_24 hS) ?_
  refine V_iload 40 dX8_adjust_38 rfl rfl ?_
  refine V_dup2 41 dX8_adjust_40 rfl ?_
  refine V_laldN 42 (_) dX8_adjust_41 rfl rfl (by decide) rfl (show _ < 24 by omega) (by decide) ?_
  refine V_iload 44 dX8_adjust_42 rfl rfl ?_
  refine V_i2l 45 dX8_adjust_44 rfl ?_
  refine V_ladd 46 dX8_adjust_45 rfl ?_
  refine V_lastN 47 (_) dX8_adjust_46 rfl rfl (by decide) rfl (show _ < 24 by omega) (by decide) ?_
  refine V_aload_n 48 dX8_adjust_47 rfl rfl ?_
  refine V_getR 51 8 25 fl_X8_155 dX8_adjust_48 rfl rfl (by decide) (Or.inr ⟨_, rfl⟩) (by decide) (sr_25 hS) ?_
  refine V_iload 53 dX8_adjust_51 rfl rfl ?_
  refine V_dup2 54 dX8_adjust_53 rfl ?_
  refine V_laldN 55 (_) dX8_adjust_54 rfl rfl (by decide) rfl (show _ < 24 by omega) (by decide) ?_
  refine V_aload_n 56 dX8_adjust_55 rfl rfl ?_
  refine V_iload 58 dX8_adjust_56 rfl rfl ?_
  refine V_lload 60 dX8_adjust_58 rfl rfl ?_
  refine V_iload 62 dX8_adjust_60 rfl rfl ?_
  refine V_i2l 63 dX8_adjust_62 rfl ?_
  refine V_ladd 64 dX8_adjust_63 rfl ?_
  refine V_cV2l 67 (ct_X8_costOf hS (by omega) hk hz he) cs_X8_179 rfl rfl (by decide) dX8_adjust_64 rfl ⟨Nat.le_of_ble_eq_true rfl, Nat.le_of_ble_eq_true rfl⟩ (Nat.le_of_ble_eq_true rfl) ⟨Nat.le_of_ble_eq_true rfl, Nat.le_of_ble_eq_true rfl⟩ (fun x h' hx hle => ?_)
  obtain ⟨rfl, rfl⟩ := hx
  refine V_aload_n 68 dX8_adjust_67 rfl rfl ?_
  refine V_iload 70 dX8_adjust_68 rfl rfl ?_
  refine V_lload 72 dX8_adjust_70 rfl rfl ?_
  refine V_cV2l 75 (ct_X8_costOf hS (by omega) hk hz he) cs_X8_179 rfl rfl (by decide) dX8_adjust_72 rfl ⟨Nat.le_of_ble_eq_true rfl, Nat.le_of_ble_eq_true rfl⟩ (Nat.le_of_ble_eq_true rfl) ⟨Nat.le_of_ble_eq_true rfl, Nat.le_of_ble_eq_true rfl⟩ (fun x h' hx hle => ?_)
  obtain ⟨rfl, rfl⟩ := hx
  refine V_lsub 76 dX8_adjust_75 rfl ?_
  refine V_ladd 77 dX8_adjust_76 rfl ?_
  refine V_lastN 78 (_) dX8_adjust_77 rfl rfl (by decide) rfl (show _ < 24 by omega) (by decide) ?_
  refine V_aload_n 79 dX8_adjust_78 rfl rfl ?_
  refine V_getR 82 8 26 fl_X8_158 dX8_adjust_79 rfl rfl (by decide) (Or.inr ⟨_, rfl⟩) (by decide) (sr_26 hS) ?_
  refine V_iload 84 dX8_adjust_82 rfl rfl ?_
  refine V_iconst (v := 1) 85 dX8_adjust_84 rfl (by decide) ?_
  refine V_zastN 86 (_) dX8_adjust_85 rfl rfl (by decide) rfl (show _ < 24 by omega) (by decide) rfl ?_
  refine V_vret dX8_adjust_86 rfl ⟨rfl, ?_⟩ (by first | exact Nat.le_refl _ | decide | omega) (by first | exact Nat.le_refl _ | decide | omega)
  rfl
end RJ
