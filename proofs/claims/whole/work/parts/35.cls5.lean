/-! The class: the other reads, terms, credits; parts of a sum -/
theorem i64_rem (x : Int64) : x % 10000 = x - x / 10000 * 10000 := by
  have h1 : (x % 10000).toInt = x.toInt.tmod 10000 := Int64.toInt_mod x 10000
  have h2 : (x / 10000).toInt = x.toInt.tdiv 10000 := Int64.toInt_div_of_ne_right x 10000 (by decide)
  have h3 : x.toInt.tmod 10000 = x.toInt - 10000 * x.toInt.tdiv 10000 := Int.tmod_def _ _
  calc x % 10000 = Int64.ofInt (x % 10000).toInt := (Int64.ofInt_toInt _).symm
    _ = Int64.ofInt (x.toInt - (x / 10000).toInt * 10000) := by rw [h1, h2, h3, Int.mul_comm]
    _ = x - x / 10000 * 10000 := by rw [Int64.ofInt_sub, Int64.ofInt_mul, Int64.ofInt_toInt, Int64.ofInt_toInt]; rfl
theorem i64_rem_lt (x : Int64) : -10000 < x % 10000 ∧ x % 10000 < 10000 := by
  have h1 : (x % 10000).toInt = x.toInt.tmod 10000 := Int64.toInt_mod x 10000
  have h2 := Int.tmod_lt_of_pos x.toInt (b := 10000) (by decide)
  have h3 := Int.lt_tmod_of_pos x.toInt (b := 10000) (by decide)
  constructor
  · rw [Int64.lt_iff_toInt_lt, h1]
    exact h3
  · rw [Int64.lt_iff_toInt_lt, h1]
    exact h2
theorem i64_bit (w : Int64) : w &&& 1 = 0 ∨ w &&& 1 = 1 := by
  have h : ∀ b : BitVec 64, b &&& 1#64 = 0#64 ∨ b &&& 1#64 = 1#64 := by
    intro b
    have := BitVec.toNat_and b 1#64
    have e : (1#64).toNat = 1 := rfl
    rw [e, Nat.and_one_is_mod] at this
    rcases Nat.mod_two_eq_zero_or_one b.toNat with q | q
    · exact Or.inl (BitVec.eq_of_toNat_eq (by rw [this, q]; rfl))
    · exact Or.inr (BitVec.eq_of_toNat_eq (by rw [this, q]; rfl))
  rcases h w.toBitVec with q | q
  · exact Or.inl (Int64.toBitVec_inj.mp q)
  · exact Or.inr (Int64.toBitVec_inj.mp q)
section CR
variable {h : qH} {NA NH NI : Nat}
theorem ct_X3_partOfSum {i : Nat} {o : Int32} : qM yX3_partOfSum cX3_partOfSum 9 ((some .long)) 1 25 0 0 [.inr (.inr (some (28, i))), .inl o] h (pL fun x h' => x = m_part (qg_l h 28 i 7) o.toInt64 ∧ h' = h) := by
  refine qM.of (plainFor_of_name (by decide)) (Nat.le_of_ble_eq_true rfl) ?_
  refine V_aload_n 1 dX3_partOfSum_0 rfl rfl ?_
  refine V_getl 4 3 7 fl_X3_35 dX3_partOfSum_1 rfl rfl (by decide) rfl (by decide) ?_
  refine V_ldc2 (v := 10000) 7 dX3_partOfSum_4 rfl wc_X3_43 ?_
  refine V_cS2l 10 (ct_J9_floorMod_f86c9 _ _ _ (by decide)) cs_X3_45 dX3_partOfSum_7 rfl ⟨Nat.le_of_ble_eq_true rfl, Nat.le_of_ble_eq_true rfl⟩ (Nat.le_of_ble_eq_true rfl) ⟨Nat.le_of_ble_eq_true rfl, Nat.le_of_ble_eq_true rfl⟩ (fun x h' hx hle => ?_)
  obtain ⟨rfl, rfl⟩ := hx
  refine V_iload_n 11 dX3_partOfSum_10 rfl rfl ?_
  refine V_i2l 12 dX3_partOfSum_11 rfl ?_
  refine V_lmul 13 dX3_partOfSum_12 rfl ?_
  refine V_lstore_n 14 dX3_partOfSum_13 rfl (by decide) ?_
  refine V_aload_n 15 dX3_partOfSum_14 rfl rfl ?_
  refine V_getl 18 3 7 fl_X3_35 dX3_partOfSum_15 rfl rfl (by decide) rfl (by decide) ?_
  refine V_ldc2 (v := 10000) 21 dX3_partOfSum_18 rfl wc_X3_43 ?_
  refine V_cS2l 24 (ct_J9_floorDiv_f86c9 _ _ _ (by decide)) cs_X3_51 dX3_partOfSum_21 rfl ⟨Nat.le_of_ble_eq_true rfl, Nat.le_of_ble_eq_true rfl⟩ (Nat.le_of_ble_eq_true rfl) ⟨Nat.le_of_ble_eq_true rfl, Nat.le_of_ble_eq_true rfl⟩ (fun x h' hx hle => ?_)
  obtain ⟨rfl, rfl⟩ := hx
  refine V_iload_n 25 dX3_partOfSum_24 rfl rfl ?_
  refine V_i2l 26 dX3_partOfSum_25 rfl ?_
  refine V_lmul 27 dX3_partOfSum_26 rfl ?_
  refine V_lload_n 28 dX3_partOfSum_27 rfl rfl ?_
  refine V_ldc2 (v := 10000) 31 dX3_partOfSum_28 rfl wc_X3_43 ?_
  refine V_ldiv 32 dX3_partOfSum_31 rfl (by decide) ?_
  refine V_ladd 33 dX3_partOfSum_32 rfl ?_
  refine V_lstore 35 dX3_partOfSum_33 rfl (by decide) ?_
  refine V_ldc2 (v := 2) 38 dX3_partOfSum_35 rfl wc_X3_54 ?_
  refine V_lload_n 39 dX3_partOfSum_38 rfl rfl ?_
  refine V_ldc2 (v := 10000) 42 dX3_partOfSum_39 rfl wc_X3_43 ?_
  refine V_lrem 43 dX3_partOfSum_42 rfl (by decide) ?_
  refine V_lmul 44 dX3_partOfSum_43 rfl ?_
  refine V_lstore 46 dX3_partOfSum_44 rfl (by decide) ?_
  refine V_lload 48 dX3_partOfSum_46 rfl rfl ?_
  refine V_lconst (v := 1) 49 dX3_partOfSum_48 rfl (by decide) ?_
  refine V_land 50 dX3_partOfSum_49 rfl ?_
  refine V_lconst (v := 1) 51 dX3_partOfSum_50 rfl (by decide) ?_
  refine V_lcmp 52 dX3_partOfSum_51 rfl ?_
  refine V_if_ne 59 55 dX3_partOfSum_52 rfl rfl (fun c_52 => ?_) (fun c_52 => ?_)
  · (rw [lg_eq] at c_52)
    refine V_iconst (v := 0) 60 dX3_partOfSum_59 rfl (by decide) ?_
    refine V_istore 62 dX3_partOfSum_60 rfl (by decide) ?_
    refine V_lload 64 dX3_partOfSum_62 rfl rfl ?_
    refine V_ldc2 (v := 10000) 67 dX3_partOfSum_64 rfl wc_X3_43 ?_
    refine V_lcmp 68 dX3_partOfSum_67 rfl ?_
    refine V_if_gt 85 71 dX3_partOfSum_68 rfl rfl (fun c_68 => ?_) (fun c_68 => ?_)
    · (rw [lg_gt] at c_68)
      refine V_lload 87 dX3_partOfSum_85 rfl rfl ?_
      refine V_lconst (v := 1) 88 dX3_partOfSum_87 rfl (by decide) ?_
      refine V_ladd 89 dX3_partOfSum_88 rfl ?_
      refine V_lstore 91 dX3_partOfSum_89 rfl (by decide) ?_
      refine V_lload 93 dX3_partOfSum_91 rfl rfl ?_
      refine V_lret dX3_partOfSum_93 rfl ⟨_, rfl, ?_⟩ (by first | exact Nat.le_refl _ | decide | omega) (by first | exact Nat.le_refl _ | decide | omega)
      refine ⟨?_, rfl⟩
      have r1 := i64_rem (q_fmod (qg_l h' 28 i 7) 10000 * o.toInt64)
      have r2 := i64_rem_lt (q_fmod (qg_l h' 28 i 7) 10000 * o.toInt64)
      have r3 := i64_bit (q_fdiv (qg_l h' 28 i 7) 10000 * o.toInt64 + q_fmod (qg_l h' 28 i 7) 10000 * o.toInt64 / 10000)
      simp only [m_part]
      grind
    · (rw [lg_gt] at c_68)
      refine V_lload 73 dX3_partOfSum_71 rfl rfl ?_
      refine V_ldc2 (v := 10000) 76 dX3_partOfSum_73 rfl wc_X3_43 ?_
      refine V_lcmp 77 dX3_partOfSum_76 rfl ?_
      refine V_if_ne 91 80 dX3_partOfSum_77 rfl rfl (fun c_77 => ?_) (fun c_77 => ?_)
      · (rw [lg_eq] at c_77)
        refine V_lload 93 dX3_partOfSum_91 rfl rfl ?_
        refine V_lret dX3_partOfSum_93 rfl ⟨_, rfl, ?_⟩ (by first | exact Nat.le_refl _ | decide | omega) (by first | exact Nat.le_refl _ | decide | omega)
        refine ⟨?_, rfl⟩
        have r1 := i64_rem (q_fmod (qg_l h' 28 i 7) 10000 * o.toInt64)
        have r2 := i64_rem_lt (q_fmod (qg_l h' 28 i 7) 10000 * o.toInt64)
        have r3 := i64_bit (q_fdiv (qg_l h' 28 i 7) 10000 * o.toInt64 + q_fmod (qg_l h' 28 i 7) 10000 * o.toInt64 / 10000)
        simp only [m_part]
        grind
      · (rw [lg_eq] at c_77)
        refine V_iload 82 dX3_partOfSum_80 rfl rfl ?_
        refine V_if_eq 91 85 dX3_partOfSum_82 rfl rfl (fun c_82 => ?_) (fun c_82 => ?_)
        · skip
          refine V_lload 93 dX3_partOfSum_91 rfl rfl ?_
          refine V_lret dX3_partOfSum_93 rfl ⟨_, rfl, ?_⟩ (by first | exact Nat.le_refl _ | decide | omega) (by first | exact Nat.le_refl _ | decide | omega)
          refine ⟨?_, rfl⟩
          have r1 := i64_rem (q_fmod (qg_l h' 28 i 7) 10000 * o.toInt64)
          have r2 := i64_rem_lt (q_fmod (qg_l h' 28 i 7) 10000 * o.toInt64)
          have r3 := i64_bit (q_fdiv (qg_l h' 28 i 7) 10000 * o.toInt64 + q_fmod (qg_l h' 28 i 7) 10000 * o.toInt64 / 10000)
          simp only [m_part]
          grind
        · skip
          refine V_lload 87 dX3_partOfSum_85 rfl rfl ?_
          refine V_lconst (v := 1) 88 dX3_partOfSum_87 rfl (by decide) ?_
          refine V_ladd 89 dX3_partOfSum_88 rfl ?_
          refine V_lstore 91 dX3_partOfSum_89 rfl (by decide) ?_
          refine V_lload 93 dX3_partOfSum_91 rfl rfl ?_
          refine V_lret dX3_partOfSum_93 rfl ⟨_, rfl, ?_⟩ (by first | exact Nat.le_refl _ | decide | omega) (by first | exact Nat.le_refl _ | decide | omega)
          refine ⟨?_, rfl⟩
          have r1 := i64_rem (q_fmod (qg_l h' 28 i 7) 10000 * o.toInt64)
          have r2 := i64_rem_lt (q_fmod (qg_l h' 28 i 7) 10000 * o.toInt64)
          have r3 := i64_bit (q_fdiv (qg_l h' 28 i 7) 10000 * o.toInt64 + q_fmod (qg_l h' 28 i 7) 10000 * o.toInt64 / 10000)
          simp only [m_part]
          grind
  · (rw [lg_eq] at c_52)
    refine V_iconst (v := 1) 56 dX3_partOfSum_55 rfl (by decide) ?_
    refine V_goto 60 dX3_partOfSum_56 rfl ?_
    refine V_istore 62 dX3_partOfSum_60 rfl (by decide) ?_
    refine V_lload 64 dX3_partOfSum_62 rfl rfl ?_
    refine V_ldc2 (v := 10000) 67 dX3_partOfSum_64 rfl wc_X3_43 ?_
    refine V_lcmp 68 dX3_partOfSum_67 rfl ?_
    refine V_if_gt 85 71 dX3_partOfSum_68 rfl rfl (fun c_68 => ?_) (fun c_68 => ?_)
    · (rw [lg_gt] at c_68)
      refine V_lload 87 dX3_partOfSum_85 rfl rfl ?_
      refine V_lconst (v := 1) 88 dX3_partOfSum_87 rfl (by decide) ?_
      refine V_ladd 89 dX3_partOfSum_88 rfl ?_
      refine V_lstore 91 dX3_partOfSum_89 rfl (by decide) ?_
      refine V_lload 93 dX3_partOfSum_91 rfl rfl ?_
      refine V_lret dX3_partOfSum_93 rfl ⟨_, rfl, ?_⟩ (by first | exact Nat.le_refl _ | decide | omega) (by first | exact Nat.le_refl _ | decide | omega)
      refine ⟨?_, rfl⟩
      have r1 := i64_rem (q_fmod (qg_l h' 28 i 7) 10000 * o.toInt64)
      have r2 := i64_rem_lt (q_fmod (qg_l h' 28 i 7) 10000 * o.toInt64)
      have r3 := i64_bit (q_fdiv (qg_l h' 28 i 7) 10000 * o.toInt64 + q_fmod (qg_l h' 28 i 7) 10000 * o.toInt64 / 10000)
      simp only [m_part]
      grind
    · (rw [lg_gt] at c_68)
      refine V_lload 73 dX3_partOfSum_71 rfl rfl ?_
      refine V_ldc2 (v := 10000) 76 dX3_partOfSum_73 rfl wc_X3_43 ?_
      refine V_lcmp 77 dX3_partOfSum_76 rfl ?_
      refine V_if_ne 91 80 dX3_partOfSum_77 rfl rfl (fun c_77 => ?_) (fun c_77 => ?_)
      · (rw [lg_eq] at c_77)
        refine V_lload 93 dX3_partOfSum_91 rfl rfl ?_
        refine V_lret dX3_partOfSum_93 rfl ⟨_, rfl, ?_⟩ (by first | exact Nat.le_refl _ | decide | omega) (by first | exact Nat.le_refl _ | decide | omega)
        refine ⟨?_, rfl⟩
        have r1 := i64_rem (q_fmod (qg_l h' 28 i 7) 10000 * o.toInt64)
        have r2 := i64_rem_lt (q_fmod (qg_l h' 28 i 7) 10000 * o.toInt64)
        have r3 := i64_bit (q_fdiv (qg_l h' 28 i 7) 10000 * o.toInt64 + q_fmod (qg_l h' 28 i 7) 10000 * o.toInt64 / 10000)
        simp only [m_part]
        grind
      · (rw [lg_eq] at c_77)
        refine V_iload 82 dX3_partOfSum_80 rfl rfl ?_
        refine V_if_eq 91 85 dX3_partOfSum_82 rfl rfl (fun c_82 => ?_) (fun c_82 => ?_)
        · skip
          refine V_lload 93 dX3_partOfSum_91 rfl rfl ?_
          refine V_lret dX3_partOfSum_93 rfl ⟨_, rfl, ?_⟩ (by first | exact Nat.le_refl _ | decide | omega) (by first | exact Nat.le_refl _ | decide | omega)
          refine ⟨?_, rfl⟩
          have r1 := i64_rem (q_fmod (qg_l h' 28 i 7) 10000 * o.toInt64)
          have r2 := i64_rem_lt (q_fmod (qg_l h' 28 i 7) 10000 * o.toInt64)
          have r3 := i64_bit (q_fdiv (qg_l h' 28 i 7) 10000 * o.toInt64 + q_fmod (qg_l h' 28 i 7) 10000 * o.toInt64 / 10000)
          simp only [m_part]
          grind
        · skip
          refine V_lload 87 dX3_partOfSum_85 rfl rfl ?_
          refine V_lconst (v := 1) 88 dX3_partOfSum_87 rfl (by decide) ?_
          refine V_ladd 89 dX3_partOfSum_88 rfl ?_
          refine V_lstore 91 dX3_partOfSum_89 rfl (by decide) ?_
          refine V_lload 93 dX3_partOfSum_91 rfl rfl ?_
          refine V_lret dX3_partOfSum_93 rfl ⟨_, rfl, ?_⟩ (by first | exact Nat.le_refl _ | decide | omega) (by first | exact Nat.le_refl _ | decide | omega)
          refine ⟨?_, rfl⟩
          have r1 := i64_rem (q_fmod (qg_l h' 28 i 7) 10000 * o.toInt64)
          have r2 := i64_rem_lt (q_fmod (qg_l h' 28 i 7) 10000 * o.toInt64)
          have r3 := i64_bit (q_fdiv (qg_l h' 28 i 7) 10000 * o.toInt64 + q_fmod (qg_l h' 28 i 7) 10000 * o.toInt64 / 10000)
          simp only [m_part]
          grind
theorem ct_X7_terms_ok {t : Nat} {d x : Int32} {m : Int64} (hS : SHC h NA NH NI) (ht : t < 6) (hd : 0 ≤ d ∧ d ≤ 10000) (hm : 0 ≤ m ∧ m ≤ 1000000000000) (hxx : 0 ≤ x ∧ x ≤ 10000) : qM yX7_terms cX7_terms 7 ((some .int)) 1 21 0 0 [.inr (.inr (some (1, 0))), .inl (nI t), .inl d, .inr (.inl m), .inl x] h (pI fun v h' => v = 0 ∧ h' = qs_i (qs_l (qs_i h 10 t 7 d) 10 t 8 m) 10 t 9 x) := by
  refine qM.of (plainFor_of_name (by decide)) (Nat.le_of_ble_eq_true rfl) ?_
  refine V_aload_n 1 dX7_terms_0 rfl rfl ?_
  refine V_iload_n 2 dX7_terms_1 rfl rfl ?_
  refine V_cV1r 5 (ten_ok hS ht) cs_X7_43 rfl rfl (by decide) dX7_terms_2 rfl ⟨Nat.le_of_ble_eq_true rfl, Nat.le_of_ble_eq_true rfl⟩ (Nat.le_of_ble_eq_true rfl) ⟨Nat.le_of_ble_eq_true rfl, Nat.le_of_ble_eq_true rfl⟩ (fun x h' hx hle => ?_)
  obtain ⟨rfl, rfl⟩ := hx
  refine V_astore 7 dX7_terms_5 rfl (by decide) ?_
  refine V_aload 9 dX7_terms_7 rfl rfl ?_
  refine V_ifnull 41 12 dX7_terms_9 rfl rfl (fun c_9 => ?_) (fun a_9 c_9 => ?_)
  · skip
    cases c_9
  · skip
    cases c_9
    refine V_iload_n 13 dX7_terms_12 rfl rfl ?_
    refine V_cS1i 16 (ct_X7_isRate _ _) cs_X7_173 dX7_terms_13 rfl ⟨Nat.le_of_ble_eq_true rfl, Nat.le_of_ble_eq_true rfl⟩ (Nat.le_of_ble_eq_true rfl) ⟨Nat.le_of_ble_eq_true rfl, Nat.le_of_ble_eq_true rfl⟩ (fun x h' hx hle => ?_)
    obtain ⟨rfl, rfl⟩ := hx
    refine V_if_eq 41 19 dX7_terms_16 rfl rfl (fun c_16 => ?_) (fun c_16 => ?_)
    · skip
      exfalso; grind
    · skip
      refine V_lload_n 20 dX7_terms_19 rfl rfl ?_
      refine V_lconst (v := 0) 21 dX7_terms_20 rfl (by decide) ?_
      refine V_lcmp 22 dX7_terms_21 rfl ?_
      refine V_if_lt 41 25 dX7_terms_22 rfl rfl (fun c_22 => ?_) (fun c_22 => ?_)
      · (rw [lg_lt] at c_22)
        exfalso; grind
      · (rw [lg_lt] at c_22)
        refine V_lload_n 26 dX7_terms_25 rfl rfl ?_
        refine V_ldc2 (v := 1000000000000) 29 dX7_terms_26 rfl wc_X7_176 ?_
        refine V_lcmp 30 dX7_terms_29 rfl ?_
        refine V_if_gt 41 33 dX7_terms_30 rfl rfl (fun c_30 => ?_) (fun c_30 => ?_)
        · (rw [lg_gt] at c_30)
          exfalso; grind
        · (rw [lg_gt] at c_30)
          refine V_iload 35 dX7_terms_33 rfl rfl ?_
          refine V_cS1i 38 (ct_X7_isRate _ _) cs_X7_173 dX7_terms_35 rfl ⟨Nat.le_of_ble_eq_true rfl, Nat.le_of_ble_eq_true rfl⟩ (Nat.le_of_ble_eq_true rfl) ⟨Nat.le_of_ble_eq_true rfl, Nat.le_of_ble_eq_true rfl⟩ (fun x h' hx hle => ?_)
          obtain ⟨rfl, rfl⟩ := hx
          refine V_if_ne 44 41 dX7_terms_38 rfl rfl (fun c_38 => ?_) (fun c_38 => ?_)
          · skip
            refine V_aload 46 dX7_terms_44 rfl rfl ?_
            refine V_iload_n 47 dX7_terms_46 rfl rfl ?_
            refine V_puti 50 6 7 fl_X7_178 dX7_terms_47 rfl rfl (by decide) rfl (by decide) (Or.inl rfl) ?_
            refine V_aload 52 dX7_terms_50 rfl rfl ?_
            refine V_lload_n 53 dX7_terms_52 rfl rfl ?_
            refine V_putl 56 6 8 fl_X7_181 dX7_terms_53 rfl rfl (by decide) rfl (by decide) (Or.inl rfl) ?_
            refine V_aload 58 dX7_terms_56 rfl rfl ?_
            refine V_iload 60 dX7_terms_58 rfl rfl ?_
            refine V_puti 63 6 9 fl_X7_185 dX7_terms_60 rfl rfl (by decide) rfl (by decide) (Or.inl rfl) ?_
            refine V_iconst (v := 0) 64 dX7_terms_63 rfl (by decide) ?_
            refine V_iret dX7_terms_64 rfl rfl ⟨_, rfl, ?_⟩ (by first | exact Nat.le_refl _ | decide | omega) (by first | exact Nat.le_refl _ | decide | omega)
            exact ⟨rfl, rfl⟩
          · skip
            exfalso; grind
theorem ct_X7_terms_bad {t d x : Int32} {m : Int64} (hS : SHC h NA NH NI) (hbad : ¬ ((0 ≤ t ∧ t < 6) ∧ (0 ≤ d ∧ d ≤ 10000) ∧ (0 ≤ m ∧ m ≤ 1000000000000) ∧ (0 ≤ x ∧ x ≤ 10000))) : qM yX7_terms cX7_terms 7 ((some .int)) 1 21 0 0 [.inr (.inr (some (1, 0))), .inl t, .inl d, .inr (.inl m), .inl x] h (pI fun v h' => v = -2 ∧ h' = h) := by
  by_cases ht : 0 ≤ t ∧ t < 6
  · obtain ⟨t', ht', rfl⟩ : ∃ b, b < 6 ∧ t = nI b := ix_of (n := 6) (by decide) ht
    refine qM.of (plainFor_of_name (by decide)) (Nat.le_of_ble_eq_true rfl) ?_
    refine V_aload_n 1 dX7_terms_0 rfl rfl ?_
    refine V_iload_n 2 dX7_terms_1 rfl rfl ?_
    refine V_cV1r 5 (ten_ok hS ht') cs_X7_43 rfl rfl (by decide) dX7_terms_2 rfl ⟨Nat.le_of_ble_eq_true rfl, Nat.le_of_ble_eq_true rfl⟩ (Nat.le_of_ble_eq_true rfl) ⟨Nat.le_of_ble_eq_true rfl, Nat.le_of_ble_eq_true rfl⟩ (fun x h' hx hle => ?_)
    obtain ⟨rfl, rfl⟩ := hx
    refine V_astore 7 dX7_terms_5 rfl (by decide) ?_
    refine V_aload 9 dX7_terms_7 rfl rfl ?_
    refine V_ifnull 41 12 dX7_terms_9 rfl rfl (fun c_9 => ?_) (fun a_9 c_9 => ?_)
    · skip
      cases c_9
    · skip
      cases c_9
      refine V_iload_n 13 dX7_terms_12 rfl rfl ?_
      refine V_cS1i 16 (ct_X7_isRate _ _) cs_X7_173 dX7_terms_13 rfl ⟨Nat.le_of_ble_eq_true rfl, Nat.le_of_ble_eq_true rfl⟩ (Nat.le_of_ble_eq_true rfl) ⟨Nat.le_of_ble_eq_true rfl, Nat.le_of_ble_eq_true rfl⟩ (fun x h' hx hle => ?_)
      obtain ⟨rfl, rfl⟩ := hx
      refine V_if_eq 41 19 dX7_terms_16 rfl rfl (fun c_16 => ?_) (fun c_16 => ?_)
      · skip
        refine V_bipush (v := (-2)) 43 dX7_terms_41 rfl (by decide) ?_
        refine V_iret dX7_terms_43 rfl rfl ⟨_, rfl, ?_⟩ (by first | exact Nat.le_refl _ | decide | omega) (by first | exact Nat.le_refl _ | decide | omega)
        exact ⟨rfl, rfl⟩
      · skip
        refine V_lload_n 20 dX7_terms_19 rfl rfl ?_
        refine V_lconst (v := 0) 21 dX7_terms_20 rfl (by decide) ?_
        refine V_lcmp 22 dX7_terms_21 rfl ?_
        refine V_if_lt 41 25 dX7_terms_22 rfl rfl (fun c_22 => ?_) (fun c_22 => ?_)
        · (rw [lg_lt] at c_22)
          refine V_bipush (v := (-2)) 43 dX7_terms_41 rfl (by decide) ?_
          refine V_iret dX7_terms_43 rfl rfl ⟨_, rfl, ?_⟩ (by first | exact Nat.le_refl _ | decide | omega) (by first | exact Nat.le_refl _ | decide | omega)
          exact ⟨rfl, rfl⟩
        · (rw [lg_lt] at c_22)
          refine V_lload_n 26 dX7_terms_25 rfl rfl ?_
          refine V_ldc2 (v := 1000000000000) 29 dX7_terms_26 rfl wc_X7_176 ?_
          refine V_lcmp 30 dX7_terms_29 rfl ?_
          refine V_if_gt 41 33 dX7_terms_30 rfl rfl (fun c_30 => ?_) (fun c_30 => ?_)
          · (rw [lg_gt] at c_30)
            refine V_bipush (v := (-2)) 43 dX7_terms_41 rfl (by decide) ?_
            refine V_iret dX7_terms_43 rfl rfl ⟨_, rfl, ?_⟩ (by first | exact Nat.le_refl _ | decide | omega) (by first | exact Nat.le_refl _ | decide | omega)
            exact ⟨rfl, rfl⟩
          · (rw [lg_gt] at c_30)
            refine V_iload 35 dX7_terms_33 rfl rfl ?_
            refine V_cS1i 38 (ct_X7_isRate _ _) cs_X7_173 dX7_terms_35 rfl ⟨Nat.le_of_ble_eq_true rfl, Nat.le_of_ble_eq_true rfl⟩ (Nat.le_of_ble_eq_true rfl) ⟨Nat.le_of_ble_eq_true rfl, Nat.le_of_ble_eq_true rfl⟩ (fun x h' hx hle => ?_)
            obtain ⟨rfl, rfl⟩ := hx
            refine V_if_ne 44 41 dX7_terms_38 rfl rfl (fun c_38 => ?_) (fun c_38 => ?_)
            · skip
              exfalso; grind
            · skip
              refine V_bipush (v := (-2)) 43 dX7_terms_41 rfl (by decide) ?_
              refine V_iret dX7_terms_43 rfl rfl ⟨_, rfl, ?_⟩ (by first | exact Nat.le_refl _ | decide | omega) (by first | exact Nat.le_refl _ | decide | omega)
              exact ⟨rfl, rfl⟩
  · refine qM.of (plainFor_of_name (by decide)) (Nat.le_of_ble_eq_true rfl) ?_
    refine V_aload_n 1 dX7_terms_0 rfl rfl ?_
    refine V_iload_n 2 dX7_terms_1 rfl rfl ?_
    refine V_cV1r 5 (ten_no ht) cs_X7_43 rfl rfl (by decide) dX7_terms_2 rfl ⟨Nat.le_of_ble_eq_true rfl, Nat.le_of_ble_eq_true rfl⟩ (Nat.le_of_ble_eq_true rfl) ⟨Nat.le_of_ble_eq_true rfl, Nat.le_of_ble_eq_true rfl⟩ (fun x h' hx hle => ?_)
    obtain ⟨rfl, rfl⟩ := hx
    refine V_astore 7 dX7_terms_5 rfl (by decide) ?_
    refine V_aload 9 dX7_terms_7 rfl rfl ?_
    refine V_ifnull 41 12 dX7_terms_9 rfl rfl (fun c_9 => ?_) (fun a_9 c_9 => ?_)
    · skip
      refine V_bipush (v := (-2)) 43 dX7_terms_41 rfl (by decide) ?_
      refine V_iret dX7_terms_43 rfl rfl ⟨_, rfl, ?_⟩ (by first | exact Nat.le_refl _ | decide | omega) (by first | exact Nat.le_refl _ | decide | omega)
      exact ⟨rfl, rfl⟩
    · skip
      cases c_9
theorem ct_X7_left_ok {t k nc : Nat} (hS : SHC h NA NH NI) (ht : t < 6) (hc : qg_i h 15 t 2 = nI nc) (hnc : nc ≤ 40) (hk : k < nc) : qM yX7_left cX7_left 4 ((some .long)) 1 21 0 0 [.inr (.inr (some (1, 0))), .inl (nI t), .inl (nI k)] h (pL fun x h' => x = qg_l h 16 t k ∧ h' = h) := by
  refine qM.of (plainFor_of_name (by decide)) (Nat.le_of_ble_eq_true rfl) ?_
  refine V_aload_n 1 dX7_left_0 rfl rfl ?_
  refine V_iload_n 2 dX7_left_1 rfl rfl ?_
  refine V_cV1r 5 (ten_ok hS ht) cs_X7_43 rfl rfl (by decide) dX7_left_2 rfl ⟨Nat.le_of_ble_eq_true rfl, Nat.le_of_ble_eq_true rfl⟩ (Nat.le_of_ble_eq_true rfl) ⟨Nat.le_of_ble_eq_true rfl, Nat.le_of_ble_eq_true rfl⟩ (fun x h' hx hle => ?_)
  obtain ⟨rfl, rfl⟩ := hx
  refine V_astore_n 6 dX7_left_5 rfl (by decide) ?_
  refine V_aload_n 7 dX7_left_6 rfl rfl ?_
  refine V_ifnull 25 10 dX7_left_7 rfl rfl (fun c_7 => ?_) (fun a_7 c_7 => ?_)
  · skip
    cases c_7
  · skip
    cases c_7
    refine V_iload_n 11 dX7_left_10 rfl rfl ?_
    refine V_if_lt 25 14 dX7_left_11 rfl rfl (fun c_11 => ?_) (fun c_11 => ?_)
    · skip
      exact absurd c_11 (nI_pos (by omega))
    · skip
      refine V_iload_n 15 dX7_left_14 rfl rfl ?_
      refine V_aload_n 16 dX7_left_15 rfl rfl ?_
      refine V_getR 19 6 5 fl_X7_194 dX7_left_16 rfl rfl (by decide) (Or.inl ⟨_, rfl⟩) (by decide) (sh_6_5 hS (by omega)) ?_
      refine V_getiV 22 1 2 fl_X7_272 dX7_left_19 rfl rfl (by decide) rfl (by decide) hc ?_
      refine V_icmp_lt 29 25 dX7_left_22 rfl rfl (fun c_22 => ?_) (fun c_22 => ?_)
      · skip
        refine V_aload_n 30 dX7_left_29 rfl rfl ?_
        refine V_getR 33 6 5 fl_X7_194 dX7_left_30 rfl rfl (by decide) (Or.inl ⟨_, rfl⟩) (by decide) (sh_6_5 hS (by omega)) ?_
        refine V_getR 36 1 0 fl_X7_275 dX7_left_33 rfl rfl (by decide) (Or.inr ⟨_, rfl⟩) (by decide) (sh_1_0 hS (by omega)) ?_
        refine V_iload_n 37 dX7_left_36 rfl rfl ?_
        refine V_laldN 38 (_) dX7_left_37 rfl rfl (by decide) rfl (show _ < 40 by omega) (by decide) ?_
        refine V_lret dX7_left_38 rfl ⟨_, rfl, ?_⟩ (by first | exact Nat.le_refl _ | decide | omega) (by first | exact Nat.le_refl _ | decide | omega)
        exact ⟨rfl, rfl⟩
      · skip
        exact absurd (nI_lt hk (by omega)) c_22
theorem ct_X7_left_bad {t k : Int32} (hS : SHC h NA NH NI) (hbad : ¬ ((0 ≤ t ∧ t < 6) ∧ ∃ t' : Nat, t' < 6 ∧ t = nI t' ∧ (0 ≤ k ∧ k < qg_i h 15 t' 2))) : qM yX7_left cX7_left 4 ((some .long)) 1 21 0 0 [.inr (.inr (some (1, 0))), .inl t, .inl k] h (pL fun x h' => x = -2 ∧ h' = h) := by
  by_cases ht : 0 ≤ t ∧ t < 6
  · obtain ⟨t', ht', rfl⟩ : ∃ b, b < 6 ∧ t = nI b := ix_of (n := 6) (by decide) ht
    have hb2 : ¬ (0 ≤ k ∧ k < qg_i h 15 t' 2) := fun q => hbad ⟨ht, t', ht', rfl, q⟩
    refine qM.of (plainFor_of_name (by decide)) (Nat.le_of_ble_eq_true rfl) ?_
    refine V_aload_n 1 dX7_left_0 rfl rfl ?_
    refine V_iload_n 2 dX7_left_1 rfl rfl ?_
    refine V_cV1r 5 (ten_ok hS ht') cs_X7_43 rfl rfl (by decide) dX7_left_2 rfl ⟨Nat.le_of_ble_eq_true rfl, Nat.le_of_ble_eq_true rfl⟩ (Nat.le_of_ble_eq_true rfl) ⟨Nat.le_of_ble_eq_true rfl, Nat.le_of_ble_eq_true rfl⟩ (fun x h' hx hle => ?_)
    obtain ⟨rfl, rfl⟩ := hx
    refine V_astore_n 6 dX7_left_5 rfl (by decide) ?_
    refine V_aload_n 7 dX7_left_6 rfl rfl ?_
    refine V_ifnull 25 10 dX7_left_7 rfl rfl (fun c_7 => ?_) (fun a_7 c_7 => ?_)
    · skip
      cases c_7
    · skip
      cases c_7
      refine V_iload_n 11 dX7_left_10 rfl rfl ?_
      refine V_if_lt 25 14 dX7_left_11 rfl rfl (fun c_11 => ?_) (fun c_11 => ?_)
      · skip
        refine V_ldc2 (v := -2) 28 dX7_left_25 rfl wc_X7_167 ?_
        refine V_lret dX7_left_28 rfl ⟨_, rfl, ?_⟩ (by first | exact Nat.le_refl _ | decide | omega) (by first | exact Nat.le_refl _ | decide | omega)
        exact ⟨rfl, rfl⟩
      · skip
        refine V_iload_n 15 dX7_left_14 rfl rfl ?_
        refine V_aload_n 16 dX7_left_15 rfl rfl ?_
        refine V_getR 19 6 5 fl_X7_194 dX7_left_16 rfl rfl (by decide) (Or.inl ⟨_, rfl⟩) (by decide) (sh_6_5 hS (by omega)) ?_
        refine V_geti 22 1 2 fl_X7_272 dX7_left_19 rfl rfl (by decide) rfl (by decide) ?_
        refine V_icmp_lt 29 25 dX7_left_22 rfl rfl (fun c_22 => ?_) (fun c_22 => ?_)
        · skip
          exfalso; grind
        · skip
          refine V_ldc2 (v := -2) 28 dX7_left_25 rfl wc_X7_167 ?_
          refine V_lret dX7_left_28 rfl ⟨_, rfl, ?_⟩ (by first | exact Nat.le_refl _ | decide | omega) (by first | exact Nat.le_refl _ | decide | omega)
          exact ⟨rfl, rfl⟩
  · refine qM.of (plainFor_of_name (by decide)) (Nat.le_of_ble_eq_true rfl) ?_
    refine V_aload_n 1 dX7_left_0 rfl rfl ?_
    refine V_iload_n 2 dX7_left_1 rfl rfl ?_
    refine V_cV1r 5 (ten_no ht) cs_X7_43 rfl rfl (by decide) dX7_left_2 rfl ⟨Nat.le_of_ble_eq_true rfl, Nat.le_of_ble_eq_true rfl⟩ (Nat.le_of_ble_eq_true rfl) ⟨Nat.le_of_ble_eq_true rfl, Nat.le_of_ble_eq_true rfl⟩ (fun x h' hx hle => ?_)
    obtain ⟨rfl, rfl⟩ := hx
    refine V_astore_n 6 dX7_left_5 rfl (by decide) ?_
    refine V_aload_n 7 dX7_left_6 rfl rfl ?_
    refine V_ifnull 25 10 dX7_left_7 rfl rfl (fun c_7 => ?_) (fun a_7 c_7 => ?_)
    · skip
      refine V_ldc2 (v := -2) 28 dX7_left_25 rfl wc_X7_167 ?_
      refine V_lret dX7_left_28 rfl ⟨_, rfl, ?_⟩ (by first | exact Nat.le_refl _ | decide | omega) (by first | exact Nat.le_refl _ | decide | omega)
      exact ⟨rfl, rfl⟩
    · skip
      cases c_7
theorem ct_X7_closed_ok {t : Nat} (hS : SHC h NA NH NI) (ht : t < 6) : qM yX7_closed cX7_closed 3 ((some .int)) 1 21 0 0 [.inr (.inr (some (1, 0))), .inl (nI t)] h (pI fun x h' => x = qg_i h 10 t 6 ∧ h' = h) := by
  refine qM.of (plainFor_of_name (by decide)) (Nat.le_of_ble_eq_true rfl) ?_
  refine V_aload_n 1 dX7_closed_0 rfl rfl ?_
  refine V_iload_n 2 dX7_closed_1 rfl rfl ?_
  refine V_cV1r 5 (ten_ok hS ht) cs_X7_43 rfl rfl (by decide) dX7_closed_2 rfl ⟨Nat.le_of_ble_eq_true rfl, Nat.le_of_ble_eq_true rfl⟩ (Nat.le_of_ble_eq_true rfl) ⟨Nat.le_of_ble_eq_true rfl, Nat.le_of_ble_eq_true rfl⟩ (fun x h' hx hle => ?_)
  obtain ⟨rfl, rfl⟩ := hx
  refine V_astore_n 6 dX7_closed_5 rfl (by decide) ?_
  refine V_aload_n 7 dX7_closed_6 rfl rfl ?_
  refine V_ifnonnull 15 10 dX7_closed_7 rfl rfl (fun c_7 => ?_) (fun a_7 c_7 => ?_)
  · skip
    cases c_7
  · skip
    cases c_7
    refine V_aload_n 16 dX7_closed_15 rfl rfl ?_
    refine V_geti 19 6 6 fl_X7_191 dX7_closed_16 rfl rfl (by decide) rfl (by decide) ?_
    refine V_iret dX7_closed_19 rfl rfl ⟨_, rfl, ?_⟩ (by first | exact Nat.le_refl _ | decide | omega) (by first | exact Nat.le_refl _ | decide | omega)
    exact ⟨rfl, rfl⟩
theorem ct_X7_closed_bad {t : Int32} (ht : ¬ (0 ≤ t ∧ t < 6)) : qM yX7_closed cX7_closed 3 ((some .int)) 1 21 0 0 [.inr (.inr (some (1, 0))), .inl t] h (pI fun x h' => x = -2 ∧ h' = h) := by
  refine qM.of (plainFor_of_name (by decide)) (Nat.le_of_ble_eq_true rfl) ?_
  refine V_aload_n 1 dX7_closed_0 rfl rfl ?_
  refine V_iload_n 2 dX7_closed_1 rfl rfl ?_
  refine V_cV1r 5 (ten_no ht) cs_X7_43 rfl rfl (by decide) dX7_closed_2 rfl ⟨Nat.le_of_ble_eq_true rfl, Nat.le_of_ble_eq_true rfl⟩ (Nat.le_of_ble_eq_true rfl) ⟨Nat.le_of_ble_eq_true rfl, Nat.le_of_ble_eq_true rfl⟩ (fun x h' hx hle => ?_)
  obtain ⟨rfl, rfl⟩ := hx
  refine V_astore_n 6 dX7_closed_5 rfl (by decide) ?_
  refine V_aload_n 7 dX7_closed_6 rfl rfl ?_
  refine V_ifnonnull 15 10 dX7_closed_7 rfl rfl (fun c_7 => ?_) (fun a_7 c_7 => ?_)
  · skip
    refine V_bipush (v := (-2)) 12 dX7_closed_10 rfl (by decide) ?_
    refine V_goto 19 dX7_closed_12 rfl ?_
    refine V_iret dX7_closed_19 rfl rfl ⟨_, rfl, ?_⟩ (by first | exact Nat.le_refl _ | decide | omega) (by first | exact Nat.le_refl _ | decide | omega)
    exact ⟨rfl, rfl⟩
  · skip
    cases c_7
theorem ct_X7_credit_ok {t nc : Nat} {m : Int64} {p : Int32} (hS : SHC h NA NH NI) (ht : t < 6) (hc : qg_i h 15 t 2 = nI nc) (hnc : nc ≤ 40) (hm : 1 ≤ m ∧ m ≤ 1000000000000) (hp : 0 ≤ p ∧ p < 100) (hpc : qg_i h 10 t 6 ≤ p) : qM yX7_credit cX7_credit 6 ((some .int)) 2 45 0 0 [.inr (.inr (some (1, 0))), .inl (nI t), .inr (.inl m), .inl p] h (pI fun x h' => (x = -3 ∧ h' = h ∧ (nc = 40 ∨ 10 ≤ sm_i (f_some1 h t) nc)) ∨ (x = nI nc ∧ h' = qs_i (qs_i (qs_l h 16 t nc m) 17 t nc p) 15 t 2 (nI (nc + 1)) ∧ nc < 40 ∧ ¬ 10 ≤ sm_i (f_some1 h t) nc)) := by
  refine qM.of (plainFor_of_name (by decide)) (Nat.le_of_ble_eq_true rfl) ?_
  refine V_aload_n 1 dX7_credit_0 rfl rfl ?_
  refine V_iload_n 2 dX7_credit_1 rfl rfl ?_
  refine V_cV1r 5 (ten_ok hS ht) cs_X7_43 rfl rfl (by decide) dX7_credit_2 rfl ⟨Nat.le_of_ble_eq_true rfl, Nat.le_of_ble_eq_true rfl⟩ (Nat.le_of_ble_eq_true rfl) ⟨Nat.le_of_ble_eq_true rfl, Nat.le_of_ble_eq_true rfl⟩ (fun x h' hx hle => ?_)
  obtain ⟨rfl, rfl⟩ := hx
  refine V_astore 7 dX7_credit_5 rfl (by decide) ?_
  refine V_aload 9 dX7_credit_7 rfl rfl ?_
  refine V_ifnull 26 12 dX7_credit_9 rfl rfl (fun c_9 => ?_) (fun a_9 c_9 => ?_)
  · skip
    cases c_9
  · skip
    cases c_9
    refine V_lload_n 13 dX7_credit_12 rfl rfl ?_
    refine V_lconst (v := 1) 14 dX7_credit_13 rfl (by decide) ?_
    refine V_lcmp 15 dX7_credit_14 rfl ?_
    refine V_if_lt 26 18 dX7_credit_15 rfl rfl (fun c_15 => ?_) (fun c_15 => ?_)
    · (rw [lg_lt] at c_15)
      exfalso; grind
    · (rw [lg_lt] at c_15)
      refine V_lload_n 19 dX7_credit_18 rfl rfl ?_
      refine V_ldc2 (v := 1000000000000) 22 dX7_credit_19 rfl wc_X7_176 ?_
      refine V_lcmp 23 dX7_credit_22 rfl ?_
      refine V_if_le 29 26 dX7_credit_23 rfl rfl (fun c_23 => ?_) (fun c_23 => ?_)
      · (rw [lg_le] at c_23)
        refine V_iload 31 dX7_credit_29 rfl rfl ?_
        refine V_cS1i 34 (ct_X7_isPeriod _ _) cs_X7_188 dX7_credit_31 rfl ⟨Nat.le_of_ble_eq_true rfl, Nat.le_of_ble_eq_true rfl⟩ (Nat.le_of_ble_eq_true rfl) ⟨Nat.le_of_ble_eq_true rfl, Nat.le_of_ble_eq_true rfl⟩ (fun x h' hx hle => ?_)
        obtain ⟨rfl, rfl⟩ := hx
        refine V_if_eq 47 37 dX7_credit_34 rfl rfl (fun c_34 => ?_) (fun c_34 => ?_)
        · skip
          exfalso; grind
        · skip
          refine V_iload 39 dX7_credit_37 rfl rfl ?_
          refine V_aload 41 dX7_credit_39 rfl rfl ?_
          refine V_geti 44 6 6 fl_X7_191 dX7_credit_41 rfl rfl (by decide) rfl (by decide) ?_
          refine V_icmp_ge 50 47 dX7_credit_44 rfl rfl (fun c_44 => ?_) (fun c_44 => ?_)
          · skip
            refine V_aload 52 dX7_credit_50 rfl rfl ?_
            refine V_getR 55 6 5 fl_X7_194 dX7_credit_52 rfl rfl (by decide) (Or.inl ⟨_, rfl⟩) (by decide) (sh_6_5 hS (by omega)) ?_
            refine V_lload_n 56 dX7_credit_55 rfl rfl ?_
            refine V_iload 58 dX7_credit_56 rfl rfl ?_
            refine V_cV2i 61 (ct_X1_give hS ht hc hnc) cs_X7_198 rfl rfl (by decide) dX7_credit_58 rfl ⟨Nat.le_of_ble_eq_true rfl, Nat.le_of_ble_eq_true rfl⟩ (Nat.le_of_ble_eq_true rfl) ⟨Nat.le_of_ble_eq_true rfl, Nat.le_of_ble_eq_true rfl⟩ (fun x h' hx hle => ?_)
            skip
            refine V_iret dX7_credit_61 rfl rfl ⟨_, rfl, ?_⟩ (by first | exact Nat.le_refl _ | decide | omega) (by first | exact Nat.le_refl _ | decide | omega)
            exact hx
          · skip
            exfalso; grind
      · (rw [lg_le] at c_23)
        exfalso; grind
theorem ct_X7_credit_bad {t p : Int32} {m : Int64} (hS : SHC h NA NH NI) (hbad : ¬ ((0 ≤ t ∧ t < 6) ∧ (1 ≤ m ∧ m ≤ 1000000000000) ∧ (0 ≤ p ∧ p < 100) ∧ ∃ t' : Nat, t' < 6 ∧ t = nI t' ∧ qg_i h 10 t' 6 ≤ p)) : qM yX7_credit cX7_credit 6 ((some .int)) 2 45 0 0 [.inr (.inr (some (1, 0))), .inl t, .inr (.inl m), .inl p] h (pI fun x h' => x = -2 ∧ h' = h) := by
  by_cases ht : 0 ≤ t ∧ t < 6
  · obtain ⟨t', ht', rfl⟩ : ∃ b, b < 6 ∧ t = nI b := ix_of (n := 6) (by decide) ht
    have hb2 : ¬ ((1 ≤ m ∧ m ≤ 1000000000000) ∧ (0 ≤ p ∧ p < 100) ∧ qg_i h 10 t' 6 ≤ p) := fun q => hbad ⟨ht, q.1, q.2.1, t', ht', rfl, q.2.2⟩
    refine qM.of (plainFor_of_name (by decide)) (Nat.le_of_ble_eq_true rfl) ?_
    refine V_aload_n 1 dX7_credit_0 rfl rfl ?_
    refine V_iload_n 2 dX7_credit_1 rfl rfl ?_
    refine V_cV1r 5 (ten_ok hS ht') cs_X7_43 rfl rfl (by decide) dX7_credit_2 rfl ⟨Nat.le_of_ble_eq_true rfl, Nat.le_of_ble_eq_true rfl⟩ (Nat.le_of_ble_eq_true rfl) ⟨Nat.le_of_ble_eq_true rfl, Nat.le_of_ble_eq_true rfl⟩ (fun x h' hx hle => ?_)
    obtain ⟨rfl, rfl⟩ := hx
    refine V_astore 7 dX7_credit_5 rfl (by decide) ?_
    refine V_aload 9 dX7_credit_7 rfl rfl ?_
    refine V_ifnull 26 12 dX7_credit_9 rfl rfl (fun c_9 => ?_) (fun a_9 c_9 => ?_)
    · skip
      cases c_9
    · skip
      cases c_9
      refine V_lload_n 13 dX7_credit_12 rfl rfl ?_
      refine V_lconst (v := 1) 14 dX7_credit_13 rfl (by decide) ?_
      refine V_lcmp 15 dX7_credit_14 rfl ?_
      refine V_if_lt 26 18 dX7_credit_15 rfl rfl (fun c_15 => ?_) (fun c_15 => ?_)
      · (rw [lg_lt] at c_15)
        refine V_bipush (v := (-2)) 28 dX7_credit_26 rfl (by decide) ?_
        refine V_iret dX7_credit_28 rfl rfl ⟨_, rfl, ?_⟩ (by first | exact Nat.le_refl _ | decide | omega) (by first | exact Nat.le_refl _ | decide | omega)
        exact ⟨rfl, rfl⟩
      · (rw [lg_lt] at c_15)
        refine V_lload_n 19 dX7_credit_18 rfl rfl ?_
        refine V_ldc2 (v := 1000000000000) 22 dX7_credit_19 rfl wc_X7_176 ?_
        refine V_lcmp 23 dX7_credit_22 rfl ?_
        refine V_if_le 29 26 dX7_credit_23 rfl rfl (fun c_23 => ?_) (fun c_23 => ?_)
        · (rw [lg_le] at c_23)
          refine V_iload 31 dX7_credit_29 rfl rfl ?_
          refine V_cS1i 34 (ct_X7_isPeriod _ _) cs_X7_188 dX7_credit_31 rfl ⟨Nat.le_of_ble_eq_true rfl, Nat.le_of_ble_eq_true rfl⟩ (Nat.le_of_ble_eq_true rfl) ⟨Nat.le_of_ble_eq_true rfl, Nat.le_of_ble_eq_true rfl⟩ (fun x h' hx hle => ?_)
          obtain ⟨rfl, rfl⟩ := hx
          refine V_if_eq 47 37 dX7_credit_34 rfl rfl (fun c_34 => ?_) (fun c_34 => ?_)
          · skip
            refine V_bipush (v := (-2)) 49 dX7_credit_47 rfl (by decide) ?_
            refine V_iret dX7_credit_49 rfl rfl ⟨_, rfl, ?_⟩ (by first | exact Nat.le_refl _ | decide | omega) (by first | exact Nat.le_refl _ | decide | omega)
            exact ⟨rfl, rfl⟩
          · skip
            refine V_iload 39 dX7_credit_37 rfl rfl ?_
            refine V_aload 41 dX7_credit_39 rfl rfl ?_
            refine V_geti 44 6 6 fl_X7_191 dX7_credit_41 rfl rfl (by decide) rfl (by decide) ?_
            refine V_icmp_ge 50 47 dX7_credit_44 rfl rfl (fun c_44 => ?_) (fun c_44 => ?_)
            · skip
              exfalso; grind
            · skip
              refine V_bipush (v := (-2)) 49 dX7_credit_47 rfl (by decide) ?_
              refine V_iret dX7_credit_49 rfl rfl ⟨_, rfl, ?_⟩ (by first | exact Nat.le_refl _ | decide | omega) (by first | exact Nat.le_refl _ | decide | omega)
              exact ⟨rfl, rfl⟩
        · (rw [lg_le] at c_23)
          refine V_bipush (v := (-2)) 28 dX7_credit_26 rfl (by decide) ?_
          refine V_iret dX7_credit_28 rfl rfl ⟨_, rfl, ?_⟩ (by first | exact Nat.le_refl _ | decide | omega) (by first | exact Nat.le_refl _ | decide | omega)
          exact ⟨rfl, rfl⟩
  · refine qM.of (plainFor_of_name (by decide)) (Nat.le_of_ble_eq_true rfl) ?_
    refine V_aload_n 1 dX7_credit_0 rfl rfl ?_
    refine V_iload_n 2 dX7_credit_1 rfl rfl ?_
    refine V_cV1r 5 (ten_no ht) cs_X7_43 rfl rfl (by decide) dX7_credit_2 rfl ⟨Nat.le_of_ble_eq_true rfl, Nat.le_of_ble_eq_true rfl⟩ (Nat.le_of_ble_eq_true rfl) ⟨Nat.le_of_ble_eq_true rfl, Nat.le_of_ble_eq_true rfl⟩ (fun x h' hx hle => ?_)
    obtain ⟨rfl, rfl⟩ := hx
    refine V_astore 7 dX7_credit_5 rfl (by decide) ?_
    refine V_aload 9 dX7_credit_7 rfl rfl ?_
    refine V_ifnull 26 12 dX7_credit_9 rfl rfl (fun c_9 => ?_) (fun a_9 c_9 => ?_)
    · skip
      refine V_bipush (v := (-2)) 28 dX7_credit_26 rfl (by decide) ?_
      refine V_iret dX7_credit_28 rfl rfl ⟨_, rfl, ?_⟩ (by first | exact Nat.le_refl _ | decide | omega) (by first | exact Nat.le_refl _ | decide | omega)
      exact ⟨rfl, rfl⟩
    · skip
      cases c_9
def f_hold (h : qH) (j a : Nat) (w : Int32) : Int32 := if w.toInt = 0 then qg_i h 22 a 0 else if w.toInt = 1 then qg_i h 27 j 1 else if w.toInt = 2 then qg_i h 27 j 2 else if w.toInt = 3 then qg_i h 27 j 3 else if w.toInt = 4 then (if qg_i h 27 j 4 = 0 then 0 else 1) else -2
theorem ct_X7_hold_ok {j a : Nat} {w : Int32} (hS : SHC h NA NH NI) (e : qg_i h 1 0 7 = nI NH) (hNH : NH ≤ 200) (hj : j < NH) (hu : qg_r h 27 j 0 = some (22, a)) : qM yX7_hold cX7_hold 4 ((some .int)) 1 21 0 0 [.inr (.inr (some (1, 0))), .inl (nI j), .inl w] h (pI fun x h' => x = f_hold h j a w ∧ h' = h) := by
  refine qM.of (plainFor_of_name (by decide)) (Nat.le_of_ble_eq_true rfl) ?_
  refine V_aload_n 1 dX7_hold_0 rfl rfl ?_
  refine V_iload_n 2 dX7_hold_1 rfl rfl ?_
  refine V_cV1r 5 (hol_ok hS e hNH hj) cs_X7_233 rfl rfl (by decide) dX7_hold_2 rfl ⟨Nat.le_of_ble_eq_true rfl, Nat.le_of_ble_eq_true rfl⟩ (Nat.le_of_ble_eq_true rfl) ⟨Nat.le_of_ble_eq_true rfl, Nat.le_of_ble_eq_true rfl⟩ (fun x h' hx hle => ?_)
  obtain ⟨rfl, rfl⟩ := hx
  refine V_astore_n 6 dX7_hold_5 rfl (by decide) ?_
  refine V_aload_n 7 dX7_hold_6 rfl rfl ?_
  refine V_ifnonnull 13 10 dX7_hold_7 rfl rfl (fun c_7 => ?_) (fun a_7 c_7 => ?_)
  · skip
    cases c_7
  · skip
    cases c_7
    refine V_iload_n 14 dX7_hold_13 rfl rfl ?_
    by_cases z_14 : w.toInt < 0 ∨ 4 < w.toInt
    · refine V_tabOut 84 dX7_hold_14 z_14 rfl ?_
      refine V_bipush (v := (-2)) 86 dX7_hold_84 rfl (by decide) ?_
      refine V_iret dX7_hold_86 rfl rfl ⟨_, rfl, ?_⟩ (by first | exact Nat.le_refl _ | decide | omega) (by first | exact Nat.le_refl _ | decide | omega)
      refine ⟨?_, rfl⟩
      unfold f_hold
      rw [if_neg (by omega), if_neg (by omega), if_neg (by omega), if_neg (by omega), if_neg (by omega)]
    · obtain ⟨j_14, hj_14, hx_14⟩ : ∃ j : Nat, j < 5 ∧ w = nI (0 + j) := qx_sw 0 5 (by decide) (by decide) z_14
      rcases (show j_14 = 0 ∨ j_14 = 1 ∨ j_14 = 2 ∨ j_14 = 3 ∨ j_14 = 4 by omega) with rfl | rfl | rfl | rfl | rfl
      · rw [hx_14]
        refine V_tabIn (x := nI (0 + 0)) 48 dX7_hold_14 (by decide) (by decide) rfl rfl ?_
        refine V_aload_n 49 dX7_hold_48 rfl rfl ?_
        refine V_getR 52 2 0 fl_X7_123 dX7_hold_49 rfl rfl (by decide) (Or.inl ⟨_, rfl⟩) (by decide) hu ?_
        refine V_geti 55 0 0 fl_X7_127 dX7_hold_52 rfl rfl (by decide) rfl (by decide) ?_
        refine V_iret dX7_hold_55 rfl rfl ⟨_, rfl, ?_⟩ (by first | exact Nat.le_refl _ | decide | omega) (by first | exact Nat.le_refl _ | decide | omega)
        exact ⟨rfl, rfl⟩
      · rw [hx_14]
        refine V_tabIn (x := nI (0 + 1)) 56 dX7_hold_14 (by decide) (by decide) rfl rfl ?_
        refine V_aload_n 57 dX7_hold_56 rfl rfl ?_
        refine V_geti 60 2 1 fl_X7_128 dX7_hold_57 rfl rfl (by decide) rfl (by decide) ?_
        refine V_iret dX7_hold_60 rfl rfl ⟨_, rfl, ?_⟩ (by first | exact Nat.le_refl _ | decide | omega) (by first | exact Nat.le_refl _ | decide | omega)
        exact ⟨rfl, rfl⟩
      · rw [hx_14]
        refine V_tabIn (x := nI (0 + 2)) 61 dX7_hold_14 (by decide) (by decide) rfl rfl ?_
        refine V_aload_n 62 dX7_hold_61 rfl rfl ?_
        refine V_geti 65 2 2 fl_X7_120 dX7_hold_62 rfl rfl (by decide) rfl (by decide) ?_
        refine V_iret dX7_hold_65 rfl rfl ⟨_, rfl, ?_⟩ (by first | exact Nat.le_refl _ | decide | omega) (by first | exact Nat.le_refl _ | decide | omega)
        exact ⟨rfl, rfl⟩
      · rw [hx_14]
        refine V_tabIn (x := nI (0 + 3)) 66 dX7_hold_14 (by decide) (by decide) rfl rfl ?_
        refine V_aload_n 67 dX7_hold_66 rfl rfl ?_
        refine V_geti 70 2 3 fl_X7_236 dX7_hold_67 rfl rfl (by decide) rfl (by decide) ?_
        refine V_iret dX7_hold_70 rfl rfl ⟨_, rfl, ?_⟩ (by first | exact Nat.le_refl _ | decide | omega) (by first | exact Nat.le_refl _ | decide | omega)
        exact ⟨rfl, rfl⟩
      · rw [hx_14]
        refine V_tabIn (x := nI (0 + 4)) 71 dX7_hold_14 (by decide) (by decide) rfl rfl ?_
        refine V_aload_n 72 dX7_hold_71 rfl rfl ?_
        refine V_getz 75 2 4 fl_X7_239 dX7_hold_72 rfl rfl (by decide) rfl (by decide) ?_
        refine V_if_eq 82 78 dX7_hold_75 rfl rfl (fun c_75 => ?_) (fun c_75 => ?_)
        · skip
          refine V_iconst (v := 0) 83 dX7_hold_82 rfl (by decide) ?_
          refine V_iret dX7_hold_83 rfl rfl ⟨_, rfl, ?_⟩ (by first | exact Nat.le_refl _ | decide | omega) (by first | exact Nat.le_refl _ | decide | omega)
          refine ⟨?_, rfl⟩
          show _ = (if qg_i _ 27 j 4 = 0 then (0 : Int32) else 1)
          grind
        · skip
          refine V_iconst (v := 1) 79 dX7_hold_78 rfl (by decide) ?_
          refine V_goto 83 dX7_hold_79 rfl ?_
          refine V_iret dX7_hold_83 rfl rfl ⟨_, rfl, ?_⟩ (by first | exact Nat.le_refl _ | decide | omega) (by first | exact Nat.le_refl _ | decide | omega)
          refine ⟨?_, rfl⟩
          show _ = (if qg_i _ 27 j 4 = 0 then (0 : Int32) else 1)
          grind
theorem ct_X7_hold_bad {a w : Int32} (e : qg_i h 1 0 7 = nI NH) (ha : a < 0 ∨ nI NH ≤ a) : qM yX7_hold cX7_hold 4 ((some .int)) 1 21 0 0 [.inr (.inr (some (1, 0))), .inl a, .inl w] h (pI fun x h' => x = -2 ∧ h' = h) := by
  refine qM.of (plainFor_of_name (by decide)) (Nat.le_of_ble_eq_true rfl) ?_
  refine V_aload_n 1 dX7_hold_0 rfl rfl ?_
  refine V_iload_n 2 dX7_hold_1 rfl rfl ?_
  refine V_cV1r 5 (hol_no e ha) cs_X7_233 rfl rfl (by decide) dX7_hold_2 rfl ⟨Nat.le_of_ble_eq_true rfl, Nat.le_of_ble_eq_true rfl⟩ (Nat.le_of_ble_eq_true rfl) ⟨Nat.le_of_ble_eq_true rfl, Nat.le_of_ble_eq_true rfl⟩ (fun x h' hx hle => ?_)
  obtain ⟨rfl, rfl⟩ := hx
  refine V_astore_n 6 dX7_hold_5 rfl (by decide) ?_
  refine V_aload_n 7 dX7_hold_6 rfl rfl ?_
  refine V_ifnonnull 13 10 dX7_hold_7 rfl rfl (fun c_7 => ?_) (fun a_7 c_7 => ?_)
  · skip
    refine V_bipush (v := (-2)) 12 dX7_hold_10 rfl (by decide) ?_
    refine V_iret dX7_hold_12 rfl rfl ⟨_, rfl, ?_⟩ (by first | exact Nat.le_refl _ | decide | omega) (by first | exact Nat.le_refl _ | decide | omega)
    exact ⟨rfl, rfl⟩
  · skip
    cases c_7
def f_ln (h : qH) (i k w : Nat) : Int64 := match w with
  | 0 => (qg_i h 29 i k).toInt64
  | 1 => (qg_i h 30 i k).toInt64
  | 2 => qg_l h 31 i k
  | _ => qg_l h 32 i k
theorem ct_X7_line_ok {i k lc w : Nat} (hS : SHC h NA NH NI) (e : qg_i h 1 0 9 = nI NI) (hNI : NI ≤ 60) (hi : i < NI) (el : qg_i h 28 i 6 = nI lc) (hlc : lc ≤ 21) (hk : k < lc) (hw : w ≤ 3) : qM yX7_line cX7_line 5 ((some .long)) 1 21 0 0 [.inr (.inr (some (1, 0))), .inl (nI i), .inl (nI k), .inl (nI w)] h (pL fun x h' => x = f_ln h i k w ∧ h' = h) := by
  have ew := nI_toInt (n := w) (by omega)
  have iw : ∀ j, j < 4 → nI w = nI j → w = j := fun j hj q => (nI_eq (by omega) (by omega)).mp q
  refine qM.of (plainFor_of_name (by decide)) (Nat.le_of_ble_eq_true rfl) ?_
  refine V_aload_n 1 dX7_line_0 rfl rfl ?_
  refine V_iload_n 2 dX7_line_1 rfl rfl ?_
  refine V_cV1r 5 (inv_ok hS e hNI hi) cs_X7_243 rfl rfl (by decide) dX7_line_2 rfl ⟨Nat.le_of_ble_eq_true rfl, Nat.le_of_ble_eq_true rfl⟩ (Nat.le_of_ble_eq_true rfl) ⟨Nat.le_of_ble_eq_true rfl, Nat.le_of_ble_eq_true rfl⟩ (fun x h' hx hle => ?_)
  obtain ⟨rfl, rfl⟩ := hx
  refine V_astore 7 dX7_line_5 rfl (by decide) ?_
  refine V_aload 9 dX7_line_7 rfl rfl ?_
  refine V_ifnull 25 12 dX7_line_9 rfl rfl (fun c_9 => ?_) (fun a_9 c_9 => ?_)
  · skip
    cases c_9
  · skip
    cases c_9
    refine V_iload_n 13 dX7_line_12 rfl rfl ?_
    refine V_if_lt 25 16 dX7_line_13 rfl rfl (fun c_13 => ?_) (fun c_13 => ?_)
    · skip
      exact absurd c_13 (nI_pos (by omega))
    · skip
      refine V_iload_n 17 dX7_line_16 rfl rfl ?_
      refine V_aload 19 dX7_line_17 rfl rfl ?_
      refine V_getiV 22 3 6 fl_X7_247 dX7_line_19 rfl rfl (by decide) rfl (by decide) el ?_
      refine V_icmp_lt 29 25 dX7_line_22 rfl rfl (fun c_22 => ?_) (fun c_22 => ?_)
      · skip
        refine V_iload_n 30 dX7_line_29 rfl rfl ?_
        by_cases z_30 : (nI w).toInt < 0 ∨ 3 < (nI w).toInt
        · refine V_tabOut 94 dX7_line_30 z_30 rfl ?_
          exfalso; omega
        · obtain ⟨j_30, hj_30, hx_30⟩ : ∃ j : Nat, j < 4 ∧ (nI w) = nI (0 + j) := qx_sw 0 4 (by decide) (by decide) z_30
          rcases (show j_30 = 0 ∨ j_30 = 1 ∨ j_30 = 2 ∨ j_30 = 3 by omega) with rfl | rfl | rfl | rfl
          · rw [hx_30]
            refine V_tabIn (x := nI (0 + 0)) 60 dX7_line_30 (by decide) (by decide) rfl rfl ?_
            obtain rfl := iw 0 (by omega) hx_30
            refine V_aload 62 dX7_line_60 rfl rfl ?_
            refine V_getR 65 3 2 fl_X7_250 dX7_line_62 rfl rfl (by decide) (Or.inr ⟨_, rfl⟩) (by decide) (sh_3_2 hS (by omega)) ?_
            refine V_iload_n 66 dX7_line_65 rfl rfl ?_
            refine V_ialdN 67 (_) dX7_line_66 rfl rfl (by decide) rfl (show _ < 21 by omega) (by decide) ?_
            refine V_i2l 68 dX7_line_67 rfl ?_
            refine V_lret dX7_line_68 rfl ⟨_, rfl, ?_⟩ (by first | exact Nat.le_refl _ | decide | omega) (by first | exact Nat.le_refl _ | decide | omega)
            exact ⟨rfl, rfl⟩
          · rw [hx_30]
            refine V_tabIn (x := nI (0 + 1)) 69 dX7_line_30 (by decide) (by decide) rfl rfl ?_
            obtain rfl := iw 1 (by omega) hx_30
            refine V_aload 71 dX7_line_69 rfl rfl ?_
            refine V_getR 74 3 3 fl_X7_253 dX7_line_71 rfl rfl (by decide) (Or.inr ⟨_, rfl⟩) (by decide) (sh_3_3 hS (by omega)) ?_
            refine V_iload_n 75 dX7_line_74 rfl rfl ?_
            refine V_ialdN 76 (_) dX7_line_75 rfl rfl (by decide) rfl (show _ < 21 by omega) (by decide) ?_
            refine V_i2l 77 dX7_line_76 rfl ?_
            refine V_lret dX7_line_77 rfl ⟨_, rfl, ?_⟩ (by first | exact Nat.le_refl _ | decide | omega) (by first | exact Nat.le_refl _ | decide | omega)
            exact ⟨rfl, rfl⟩
          · rw [hx_30]
            refine V_tabIn (x := nI (0 + 2)) 78 dX7_line_30 (by decide) (by decide) rfl rfl ?_
            obtain rfl := iw 2 (by omega) hx_30
            refine V_aload 80 dX7_line_78 rfl rfl ?_
            refine V_getR 83 3 4 fl_X7_256 dX7_line_80 rfl rfl (by decide) (Or.inr ⟨_, rfl⟩) (by decide) (sh_3_4 hS (by omega)) ?_
            refine V_iload_n 84 dX7_line_83 rfl rfl ?_
            refine V_laldN 85 (_) dX7_line_84 rfl rfl (by decide) rfl (show _ < 21 by omega) (by decide) ?_
            refine V_lret dX7_line_85 rfl ⟨_, rfl, ?_⟩ (by first | exact Nat.le_refl _ | decide | omega) (by first | exact Nat.le_refl _ | decide | omega)
            exact ⟨rfl, rfl⟩
          · rw [hx_30]
            refine V_tabIn (x := nI (0 + 3)) 86 dX7_line_30 (by decide) (by decide) rfl rfl ?_
            obtain rfl := iw 3 (by omega) hx_30
            refine V_aload 88 dX7_line_86 rfl rfl ?_
            refine V_getR 91 3 5 fl_X7_260 dX7_line_88 rfl rfl (by decide) (Or.inr ⟨_, rfl⟩) (by decide) (sh_3_5 hS (by omega)) ?_
            refine V_iload_n 92 dX7_line_91 rfl rfl ?_
            refine V_laldN 93 (_) dX7_line_92 rfl rfl (by decide) rfl (show _ < 21 by omega) (by decide) ?_
            refine V_lret dX7_line_93 rfl ⟨_, rfl, ?_⟩ (by first | exact Nat.le_refl _ | decide | omega) (by first | exact Nat.le_refl _ | decide | omega)
            exact ⟨rfl, rfl⟩
      · skip
        exact absurd (nI_lt hk (by omega)) c_22
theorem ct_X7_line_bad {i k w : Int32} (hS : SHC h NA NH NI) (e : qg_i h 1 0 9 = nI NI) (hNI : NI ≤ 60) (hbad : ¬ ∃ i' : Nat, i' < NI ∧ i = nI i' ∧ (0 ≤ k ∧ k < qg_i h 28 i' 6) ∧ (0 ≤ w ∧ w ≤ 3)) : qM yX7_line cX7_line 5 ((some .long)) 1 21 0 0 [.inr (.inr (some (1, 0))), .inl i, .inl k, .inl w] h (pL fun x h' => x = -2 ∧ h' = h) := by
  rcases ix_c (x := i) (n := NI) (by omega) with z | ⟨b, hb, rfl⟩
  · refine qM.of (plainFor_of_name (by decide)) (Nat.le_of_ble_eq_true rfl) ?_
    refine V_aload_n 1 dX7_line_0 rfl rfl ?_
    refine V_iload_n 2 dX7_line_1 rfl rfl ?_
    refine V_cV1r 5 (inv_no e z) cs_X7_243 rfl rfl (by decide) dX7_line_2 rfl ⟨Nat.le_of_ble_eq_true rfl, Nat.le_of_ble_eq_true rfl⟩ (Nat.le_of_ble_eq_true rfl) ⟨Nat.le_of_ble_eq_true rfl, Nat.le_of_ble_eq_true rfl⟩ (fun x h' hx hle => ?_)
    obtain ⟨rfl, rfl⟩ := hx
    refine V_astore 7 dX7_line_5 rfl (by decide) ?_
    refine V_aload 9 dX7_line_7 rfl rfl ?_
    refine V_ifnull 25 12 dX7_line_9 rfl rfl (fun c_9 => ?_) (fun a_9 c_9 => ?_)
    · skip
      refine V_ldc2 (v := -2) 28 dX7_line_25 rfl wc_X7_167 ?_
      refine V_lret dX7_line_28 rfl ⟨_, rfl, ?_⟩ (by first | exact Nat.le_refl _ | decide | omega) (by first | exact Nat.le_refl _ | decide | omega)
      exact ⟨rfl, rfl⟩
    · skip
      cases c_9
  · have hb2 : ¬ ((0 ≤ k ∧ k < qg_i h 28 b 6) ∧ (0 ≤ w ∧ w ≤ 3)) := fun q => hbad ⟨b, hb, rfl, q⟩
    refine qM.of (plainFor_of_name (by decide)) (Nat.le_of_ble_eq_true rfl) ?_
    refine V_aload_n 1 dX7_line_0 rfl rfl ?_
    refine V_iload_n 2 dX7_line_1 rfl rfl ?_
    refine V_cV1r 5 (inv_ok hS e hNI hb) cs_X7_243 rfl rfl (by decide) dX7_line_2 rfl ⟨Nat.le_of_ble_eq_true rfl, Nat.le_of_ble_eq_true rfl⟩ (Nat.le_of_ble_eq_true rfl) ⟨Nat.le_of_ble_eq_true rfl, Nat.le_of_ble_eq_true rfl⟩ (fun x h' hx hle => ?_)
    obtain ⟨rfl, rfl⟩ := hx
    refine V_astore 7 dX7_line_5 rfl (by decide) ?_
    refine V_aload 9 dX7_line_7 rfl rfl ?_
    refine V_ifnull 25 12 dX7_line_9 rfl rfl (fun c_9 => ?_) (fun a_9 c_9 => ?_)
    · skip
      cases c_9
    · skip
      cases c_9
      refine V_iload_n 13 dX7_line_12 rfl rfl ?_
      refine V_if_lt 25 16 dX7_line_13 rfl rfl (fun c_13 => ?_) (fun c_13 => ?_)
      · skip
        refine V_ldc2 (v := -2) 28 dX7_line_25 rfl wc_X7_167 ?_
        refine V_lret dX7_line_28 rfl ⟨_, rfl, ?_⟩ (by first | exact Nat.le_refl _ | decide | omega) (by first | exact Nat.le_refl _ | decide | omega)
        exact ⟨rfl, rfl⟩
      · skip
        refine V_iload_n 17 dX7_line_16 rfl rfl ?_
        refine V_aload 19 dX7_line_17 rfl rfl ?_
        refine V_geti 22 3 6 fl_X7_247 dX7_line_19 rfl rfl (by decide) rfl (by decide) ?_
        refine V_icmp_lt 29 25 dX7_line_22 rfl rfl (fun c_22 => ?_) (fun c_22 => ?_)
        · skip
          refine V_iload_n 30 dX7_line_29 rfl rfl ?_
          by_cases z_30 : w.toInt < 0 ∨ 3 < w.toInt
          · refine V_tabOut 94 dX7_line_30 z_30 rfl ?_
            refine V_ldc2 (v := -2) 97 dX7_line_94 rfl wc_X7_167 ?_
            refine V_lret dX7_line_97 rfl ⟨_, rfl, ?_⟩ (by first | exact Nat.le_refl _ | decide | omega) (by first | exact Nat.le_refl _ | decide | omega)
            exact ⟨rfl, rfl⟩
          · obtain ⟨j_30, hj_30, hx_30⟩ : ∃ j : Nat, j < 4 ∧ w = nI (0 + j) := qx_sw 0 4 (by decide) (by decide) z_30
            rcases (show j_30 = 0 ∨ j_30 = 1 ∨ j_30 = 2 ∨ j_30 = 3 by omega) with rfl | rfl | rfl | rfl
            · rw [hx_30]
              refine V_tabIn (x := nI (0 + 0)) 60 dX7_line_30 (by decide) (by decide) rfl rfl ?_
              exfalso; exact hb2 ⟨by grind, by rw [hx_30]; decide⟩
            · rw [hx_30]
              refine V_tabIn (x := nI (0 + 1)) 69 dX7_line_30 (by decide) (by decide) rfl rfl ?_
              exfalso; exact hb2 ⟨by grind, by rw [hx_30]; decide⟩
            · rw [hx_30]
              refine V_tabIn (x := nI (0 + 2)) 78 dX7_line_30 (by decide) (by decide) rfl rfl ?_
              exfalso; exact hb2 ⟨by grind, by rw [hx_30]; decide⟩
            · rw [hx_30]
              refine V_tabIn (x := nI (0 + 3)) 86 dX7_line_30 (by decide) (by decide) rfl rfl ?_
              exfalso; exact hb2 ⟨by grind, by rw [hx_30]; decide⟩
        · skip
          refine V_ldc2 (v := -2) 28 dX7_line_25 rfl wc_X7_167 ?_
          refine V_lret dX7_line_28 rfl ⟨_, rfl, ?_⟩ (by first | exact Nat.le_refl _ | decide | omega) (by first | exact Nat.le_refl _ | decide | omega)
          exact ⟨rfl, rfl⟩
def f_inv (h : qH) (i : Nat) (w : Int32) : Int64 := if w.toInt = 0 then (qg_i h 28 i 0).toInt64 else if w.toInt = 1 then (qg_i h 28 i 1).toInt64 else if w.toInt = 2 then (qg_i h 28 i 6).toInt64 else if w.toInt = 3 then qg_l h 28 i 7 else -2
theorem ct_X7_invoice_ok {i : Nat} {w : Int32} (hS : SHC h NA NH NI) (e : qg_i h 1 0 9 = nI NI) (hNI : NI ≤ 60) (hi : i < NI) : qM yX7_invoice cX7_invoice 4 ((some .long)) 1 21 0 0 [.inr (.inr (some (1, 0))), .inl (nI i), .inl w] h (pL fun x h' => x = f_inv h i w ∧ h' = h) := by
  refine qM.of (plainFor_of_name (by decide)) (Nat.le_of_ble_eq_true rfl) ?_
  refine V_aload_n 1 dX7_invoice_0 rfl rfl ?_
  refine V_iload_n 2 dX7_invoice_1 rfl rfl ?_
  refine V_cV1r 5 (inv_ok hS e hNI hi) cs_X7_243 rfl rfl (by decide) dX7_invoice_2 rfl ⟨Nat.le_of_ble_eq_true rfl, Nat.le_of_ble_eq_true rfl⟩ (Nat.le_of_ble_eq_true rfl) ⟨Nat.le_of_ble_eq_true rfl, Nat.le_of_ble_eq_true rfl⟩ (fun x h' hx hle => ?_)
  obtain ⟨rfl, rfl⟩ := hx
  refine V_astore_n 6 dX7_invoice_5 rfl (by decide) ?_
  refine V_aload_n 7 dX7_invoice_6 rfl rfl ?_
  refine V_ifnonnull 14 10 dX7_invoice_7 rfl rfl (fun c_7 => ?_) (fun a_7 c_7 => ?_)
  · skip
    cases c_7
  · skip
    cases c_7
    refine V_iload_n 15 dX7_invoice_14 rfl rfl ?_
    by_cases z_15 : w.toInt < 0 ∨ 3 < w.toInt
    · refine V_tabOut 67 dX7_invoice_15 z_15 rfl ?_
      refine V_ldc2 (v := -2) 70 dX7_invoice_67 rfl wc_X7_167 ?_
      refine V_lret dX7_invoice_70 rfl ⟨_, rfl, ?_⟩ (by first | exact Nat.le_refl _ | decide | omega) (by first | exact Nat.le_refl _ | decide | omega)
      refine ⟨?_, rfl⟩
      unfold f_inv
      rw [if_neg (by omega), if_neg (by omega), if_neg (by omega), if_neg (by omega)]
    · obtain ⟨j_15, hj_15, hx_15⟩ : ∃ j : Nat, j < 4 ∧ w = nI (0 + j) := qx_sw 0 4 (by decide) (by decide) z_15
      rcases (show j_15 = 0 ∨ j_15 = 1 ∨ j_15 = 2 ∨ j_15 = 3 by omega) with rfl | rfl | rfl | rfl
      · rw [hx_15]
        refine V_tabIn (x := nI (0 + 0)) 44 dX7_invoice_15 (by decide) (by decide) rfl rfl ?_
        refine V_aload_n 45 dX7_invoice_44 rfl rfl ?_
        refine V_geti 48 3 0 fl_X7_263 dX7_invoice_45 rfl rfl (by decide) rfl (by decide) ?_
        refine V_i2l 49 dX7_invoice_48 rfl ?_
        refine V_lret dX7_invoice_49 rfl ⟨_, rfl, ?_⟩ (by first | exact Nat.le_refl _ | decide | omega) (by first | exact Nat.le_refl _ | decide | omega)
        exact ⟨rfl, rfl⟩
      · rw [hx_15]
        refine V_tabIn (x := nI (0 + 1)) 50 dX7_invoice_15 (by decide) (by decide) rfl rfl ?_
        refine V_aload_n 51 dX7_invoice_50 rfl rfl ?_
        refine V_geti 54 3 1 fl_X7_266 dX7_invoice_51 rfl rfl (by decide) rfl (by decide) ?_
        refine V_i2l 55 dX7_invoice_54 rfl ?_
        refine V_lret dX7_invoice_55 rfl ⟨_, rfl, ?_⟩ (by first | exact Nat.le_refl _ | decide | omega) (by first | exact Nat.le_refl _ | decide | omega)
        exact ⟨rfl, rfl⟩
      · rw [hx_15]
        refine V_tabIn (x := nI (0 + 2)) 56 dX7_invoice_15 (by decide) (by decide) rfl rfl ?_
        refine V_aload_n 57 dX7_invoice_56 rfl rfl ?_
        refine V_geti 60 3 6 fl_X7_247 dX7_invoice_57 rfl rfl (by decide) rfl (by decide) ?_
        refine V_i2l 61 dX7_invoice_60 rfl ?_
        refine V_lret dX7_invoice_61 rfl ⟨_, rfl, ?_⟩ (by first | exact Nat.le_refl _ | decide | omega) (by first | exact Nat.le_refl _ | decide | omega)
        exact ⟨rfl, rfl⟩
      · rw [hx_15]
        refine V_tabIn (x := nI (0 + 3)) 62 dX7_invoice_15 (by decide) (by decide) rfl rfl ?_
        refine V_aload_n 63 dX7_invoice_62 rfl rfl ?_
        refine V_getl 66 3 7 fl_X7_269 dX7_invoice_63 rfl rfl (by decide) rfl (by decide) ?_
        refine V_lret dX7_invoice_66 rfl ⟨_, rfl, ?_⟩ (by first | exact Nat.le_refl _ | decide | omega) (by first | exact Nat.le_refl _ | decide | omega)
        exact ⟨rfl, rfl⟩
theorem ct_X7_invoice_bad {i w : Int32} (e : qg_i h 1 0 9 = nI NI) (hi : i < 0 ∨ nI NI ≤ i) : qM yX7_invoice cX7_invoice 4 ((some .long)) 1 21 0 0 [.inr (.inr (some (1, 0))), .inl i, .inl w] h (pL fun x h' => x = -2 ∧ h' = h) := by
  refine qM.of (plainFor_of_name (by decide)) (Nat.le_of_ble_eq_true rfl) ?_
  refine V_aload_n 1 dX7_invoice_0 rfl rfl ?_
  refine V_iload_n 2 dX7_invoice_1 rfl rfl ?_
  refine V_cV1r 5 (inv_no e hi) cs_X7_243 rfl rfl (by decide) dX7_invoice_2 rfl ⟨Nat.le_of_ble_eq_true rfl, Nat.le_of_ble_eq_true rfl⟩ (Nat.le_of_ble_eq_true rfl) ⟨Nat.le_of_ble_eq_true rfl, Nat.le_of_ble_eq_true rfl⟩ (fun x h' hx hle => ?_)
  obtain ⟨rfl, rfl⟩ := hx
  refine V_astore_n 6 dX7_invoice_5 rfl (by decide) ?_
  refine V_aload_n 7 dX7_invoice_6 rfl rfl ?_
  refine V_ifnonnull 14 10 dX7_invoice_7 rfl rfl (fun c_7 => ?_) (fun a_7 c_7 => ?_)
  · skip
    refine V_ldc2 (v := -2) 13 dX7_invoice_10 rfl wc_X7_167 ?_
    refine V_lret dX7_invoice_13 rfl ⟨_, rfl, ?_⟩ (by first | exact Nat.le_refl _ | decide | omega) (by first | exact Nat.le_refl _ | decide | omega)
    exact ⟨rfl, rfl⟩
  · skip
    cases c_7
def f_count (h : qH) (w : Int32) : Int32 := if w.toInt = 0 then qg_i h 1 0 5 else if w.toInt = 1 then qg_i h 1 0 6 else if w.toInt = 2 then qg_i h 6 0 3 else if w.toInt = 3 then qg_i h 1 0 8 else if w.toInt = 4 then qg_i h 1 0 9 else -2
theorem ct_X7_count {w : Int32} (hS : SHC h NA NH NI) : qM yX7_count cX7_count 2 ((some .int)) 0 0 0 0 [.inr (.inr (some (1, 0))), .inl w] h (pI fun x h' => x = f_count h w ∧ h' = h) := by
  refine qM.of (plainFor_of_name (by decide)) (Nat.le_of_ble_eq_true rfl) ?_
  refine V_iload_n 1 dX7_count_0 rfl rfl ?_
  by_cases z_1 : w.toInt < 0 ∨ 4 < w.toInt
  · refine V_tabOut 64 dX7_count_1 z_1 rfl ?_
    refine V_bipush (v := (-2)) 66 dX7_count_64 rfl (by decide) ?_
    refine V_iret dX7_count_66 rfl rfl ⟨_, rfl, ?_⟩ (by first | exact Nat.le_refl _ | decide | omega) (by first | exact Nat.le_refl _ | decide | omega)
    refine ⟨?_, rfl⟩
    unfold f_count
    rw [if_neg (by omega), if_neg (by omega), if_neg (by omega), if_neg (by omega), if_neg (by omega)]
  · obtain ⟨j_1, hj_1, hx_1⟩ : ∃ j : Nat, j < 5 ∧ w = nI (0 + j) := qx_sw 0 5 (by decide) (by decide) z_1
    rcases (show j_1 = 0 ∨ j_1 = 1 ∨ j_1 = 2 ∨ j_1 = 3 ∨ j_1 = 4 by omega) with rfl | rfl | rfl | rfl | rfl
    · rw [hx_1]
      refine V_tabIn (x := nI (0 + 0)) 36 dX7_count_1 (by decide) (by decide) rfl rfl ?_
      refine V_aload_n 37 dX7_count_36 rfl rfl ?_
      refine V_geti 40 7 5 fl_X7_65 dX7_count_37 rfl rfl (by decide) rfl (by decide) ?_
      refine V_iret dX7_count_40 rfl rfl ⟨_, rfl, ?_⟩ (by first | exact Nat.le_refl _ | decide | omega) (by first | exact Nat.le_refl _ | decide | omega)
      exact ⟨rfl, rfl⟩
    · rw [hx_1]
      refine V_tabIn (x := nI (0 + 1)) 41 dX7_count_1 (by decide) (by decide) rfl rfl ?_
      refine V_aload_n 42 dX7_count_41 rfl rfl ?_
      refine V_geti 45 7 6 fl_X7_59 dX7_count_42 rfl rfl (by decide) rfl (by decide) ?_
      refine V_iret dX7_count_45 rfl rfl ⟨_, rfl, ?_⟩ (by first | exact Nat.le_refl _ | decide | omega) (by first | exact Nat.le_refl _ | decide | omega)
      exact ⟨rfl, rfl⟩
    · rw [hx_1]
      refine V_tabIn (x := nI (0 + 2)) 46 dX7_count_1 (by decide) (by decide) rfl rfl ?_
      refine V_aload_n 47 dX7_count_46 rfl rfl ?_
      refine V_getR 50 7 4 fl_X7_36 dX7_count_47 rfl rfl (by decide) (Or.inl ⟨_, rfl⟩) (by decide) (sh_7_4 hS) ?_
      refine V_geti 53 4 3 fl_X7_278 dX7_count_50 rfl rfl (by decide) rfl (by decide) ?_
      refine V_iret dX7_count_53 rfl rfl ⟨_, rfl, ?_⟩ (by first | exact Nat.le_refl _ | decide | omega) (by first | exact Nat.le_refl _ | decide | omega)
      exact ⟨rfl, rfl⟩
    · rw [hx_1]
      refine V_tabIn (x := nI (0 + 3)) 54 dX7_count_1 (by decide) (by decide) rfl rfl ?_
      refine V_aload_n 55 dX7_count_54 rfl rfl ?_
      refine V_geti 58 7 8 fl_X7_99 dX7_count_55 rfl rfl (by decide) rfl (by decide) ?_
      refine V_iret dX7_count_58 rfl rfl ⟨_, rfl, ?_⟩ (by first | exact Nat.le_refl _ | decide | omega) (by first | exact Nat.le_refl _ | decide | omega)
      exact ⟨rfl, rfl⟩
    · rw [hx_1]
      refine V_tabIn (x := nI (0 + 4)) 59 dX7_count_1 (by decide) (by decide) rfl rfl ?_
      refine V_aload_n 60 dX7_count_59 rfl rfl ?_
      refine V_geti 63 7 9 fl_X7_204 dX7_count_60 rfl rfl (by decide) rfl (by decide) ?_
      refine V_iret dX7_count_63 rfl rfl ⟨_, rfl, ?_⟩ (by first | exact Nat.le_refl _ | decide | omega) (by first | exact Nat.le_refl _ | decide | omega)
      exact ⟨rfl, rfl⟩
/-- terms billed -/
def f_t1 (h : qH) (i : Nat) (kd : Int32) (m : Int64) (g : qH × Nat) : qH × Nat := if m = 0 then g else (f_line g.1 i g.2 kd (-1) 0 m, g.2 + 1)
theorem f_t1_fr {i lm : Nat} {g : qH × Nat} (C : LFs h i lm g) (kd : Int32) (m : Int64) : LFs h i (lm + 1) (f_t1 h i kd m g) := by
  unfold f_t1
  split
  · exact C.up (by omega)
  · exact C.line _ _ _ _
theorem f_t1_eq {i : Nat} {g : qH × Nat} (kd : Int32) (m : Int64) : f_add g.1 i g.2 kd m = (f_t1 h i kd m g).1 := by
  unfold f_t1 f_add
  split <;> rfl
def f_T1 (h : qH) (t i : Nat) (g : qH × Nat) : qH × Nat := f_t1 h i 2 (-m_part (qg_l g.1 28 i 7) (qg_i h 10 t 7).toInt64) g
def f_T2 (h : qH) (t i : Nat) (g : qH × Nat) : qH × Nat := f_t1 h i 3 (if qg_l h 10 t 8 - qg_l g.1 28 i 7 < 0 then 0 else qg_l h 10 t 8 - qg_l g.1 28 i 7) g
def f_T3 (h : qH) (t i : Nat) (g : qH × Nat) : qH × Nat := f_t1 h i 4 (m_part (qg_l g.1 28 i 7) (qg_i h 10 t 9).toInt64) g
theorem ct_X6_billTerms {t i lm : Nat} {g : qH × Nat} (hI : IFs h i) (C : LFs h i lm g) (hlm : lm ≤ 18) : qM yX6_billTerms cX6_billTerms 2 none 2 53 0 0 [.inr (.inr (some (10, t))), .inr (.inr (some (28, i)))] g.1 (pV fun h' => h' = (f_T3 h t i (f_T2 h t i (f_T1 h t i g))).1) := by
  have C1 : LFs h i (lm + 1) (f_T1 h t i g) := f_t1_fr C _ _
  have C2 : LFs h i (lm + 1 + 1) (f_T2 h t i (f_T1 h t i g)) := f_t1_fr C1 _ _
  have l0 := C.2.2.1
  have l1 := C1.2.2.1
  have l2 := C2.2.2.1
  have w7 : qg_i g.1 10 t 7 = qg_i h 10 t 7 := C.2.2.2.1 10 t 7 (by decide) (by decide) (by decide)
  have w8 : qg_l (f_T1 h t i g).1 10 t 8 = qg_l h 10 t 8 := C1.2.2.2.2 10 t 8 (by decide) (by decide) (by decide)
  have w9 : qg_i (f_T2 h t i (f_T1 h t i g)).1 10 t 9 = qg_i h 10 t 9 := C2.2.2.2.1 10 t 9 (by decide) (by decide) (by decide)
  refine qM.of (plainFor_of_name (by decide)) (Nat.le_of_ble_eq_true rfl) ?_
  refine V_aload_n 1 dX6_billTerms_0 rfl rfl ?_
  refine V_iconst (v := 2) 2 dX6_billTerms_1 rfl (by decide) ?_
  refine V_aload_n 3 dX6_billTerms_2 rfl rfl ?_
  refine V_aload_n 4 dX6_billTerms_3 rfl rfl ?_
  refine V_getiV 7 6 7 fl_X6_49 dX6_billTerms_4 rfl rfl (by decide) rfl (by decide) w7 ?_
  refine V_cV1l 10 ct_X3_partOfSum cs_X6_52 rfl rfl (by decide) dX6_billTerms_7 rfl ⟨Nat.le_of_ble_eq_true rfl, Nat.le_of_ble_eq_true rfl⟩ (Nat.le_of_ble_eq_true rfl) ⟨Nat.le_of_ble_eq_true rfl, Nat.le_of_ble_eq_true rfl⟩ (fun x h' hx hle => ?_)
  obtain ⟨rfl, rfl⟩ := hx
  refine V_lneg 11 dX6_billTerms_10 rfl ?_
  refine V_cV2v 14 (ct_X3_addSome (C.ifs hI) C.2.1 (by omega)) cs_X6_56 rfl rfl (by decide) dX6_billTerms_11 rfl ⟨Nat.le_of_ble_eq_true rfl, Nat.le_of_ble_eq_true rfl⟩ (Nat.le_of_ble_eq_true rfl) ⟨Nat.le_of_ble_eq_true rfl, Nat.le_of_ble_eq_true rfl⟩ (fun h' hx hle => ?_)
  obtain rfl := hx
  refine V_heap (f_t1_eq (h := h) _ _) ?_
  refine V_aload_n 15 dX6_billTerms_14 rfl rfl ?_
  refine V_iconst (v := 3) 16 dX6_billTerms_15 rfl (by decide) ?_
  refine V_aload_n 17 dX6_billTerms_16 rfl rfl ?_
  refine V_getlV 20 6 8 fl_X6_60 dX6_billTerms_17 rfl rfl (by decide) rfl (by decide) w8 ?_
  refine V_aload_n 21 dX6_billTerms_20 rfl rfl ?_
  refine V_getl 24 3 7 fl_X6_64 dX6_billTerms_21 rfl rfl (by decide) rfl (by decide) ?_
  refine V_lsub 25 dX6_billTerms_24 rfl ?_
  refine V_lconst (v := 0) 26 dX6_billTerms_25 rfl (by decide) ?_
  refine V_cS2l 29 (ct_J9_max_f86c9 _ _ _) cs_X6_67 dX6_billTerms_26 rfl ⟨Nat.le_of_ble_eq_true rfl, Nat.le_of_ble_eq_true rfl⟩ (Nat.le_of_ble_eq_true rfl) ⟨Nat.le_of_ble_eq_true rfl, Nat.le_of_ble_eq_true rfl⟩ (fun x h' hx hle => ?_)
  obtain ⟨rfl, rfl⟩ := hx
  refine V_cV2v 32 (ct_X3_addSome (C1.ifs hI) C1.2.1 (by omega)) cs_X6_56 rfl rfl (by decide) dX6_billTerms_29 rfl ⟨Nat.le_of_ble_eq_true rfl, Nat.le_of_ble_eq_true rfl⟩ (Nat.le_of_ble_eq_true rfl) ⟨Nat.le_of_ble_eq_true rfl, Nat.le_of_ble_eq_true rfl⟩ (fun h' hx hle => ?_)
  obtain rfl := hx
  refine V_heap (f_t1_eq (h := h) _ _) ?_
  refine V_aload_n 33 dX6_billTerms_32 rfl rfl ?_
  refine V_iconst (v := 4) 34 dX6_billTerms_33 rfl (by decide) ?_
  refine V_aload_n 35 dX6_billTerms_34 rfl rfl ?_
  refine V_aload_n 36 dX6_billTerms_35 rfl rfl ?_
  refine V_getiV 39 6 9 fl_X6_73 dX6_billTerms_36 rfl rfl (by decide) rfl (by decide) w9 ?_
  refine V_cV1l 42 ct_X3_partOfSum cs_X6_52 rfl rfl (by decide) dX6_billTerms_39 rfl ⟨Nat.le_of_ble_eq_true rfl, Nat.le_of_ble_eq_true rfl⟩ (Nat.le_of_ble_eq_true rfl) ⟨Nat.le_of_ble_eq_true rfl, Nat.le_of_ble_eq_true rfl⟩ (fun x h' hx hle => ?_)
  obtain ⟨rfl, rfl⟩ := hx
  refine V_cV2v 45 (ct_X3_addSome (C2.ifs hI) C2.2.1 (by omega)) cs_X6_56 rfl rfl (by decide) dX6_billTerms_42 rfl ⟨Nat.le_of_ble_eq_true rfl, Nat.le_of_ble_eq_true rfl⟩ (Nat.le_of_ble_eq_true rfl) ⟨Nat.le_of_ble_eq_true rfl, Nat.le_of_ble_eq_true rfl⟩ (fun h' hx hle => ?_)
  obtain rfl := hx
  refine V_heap (f_t1_eq (h := h) _ _) ?_
  refine V_vret dX6_billTerms_45 rfl ⟨rfl, ?_⟩ (by first | exact Nat.le_refl _ | decide | omega) (by first | exact Nat.le_refl _ | decide | omega)
  rfl
end CR
