/-! The class: prices -/
theorem i64_inj {x y : Int32} (h : x.toInt64 = y.toInt64) : x = y := by
  apply Int32.toInt_inj.mp
  have := congrArg Int64.toInt h
  rwa [Int32.toInt_toInt64, Int32.toInt_toInt64] at this
theorem i64_ne0 {x : Int32} (h : 1 ≤ x) : ¬ x.toInt64 = 0 := fun q => by
  have : x = 0 := i64_inj (y := 0) q
  subst this
  exact absurd h (by decide)
section CP
variable {h : qH} {NA NH NI : Nat}
theorem ct_X5_pricedParts {p : Nat} {u : Int64} (hz : 1 ≤ qg_i h 18 p 5) : qM yX5_pricedParts cX5_pricedParts 3 ((some .long)) 0 0 0 0 [.inr (.inr (some (18, p))), .inr (.inl u)] h (pL fun x h' => x = (if qg_i h 18 p 4 = 2 then (u + (qg_i h 18 p 5).toInt64 - 1) / (qg_i h 18 p 5).toInt64 else u) ∧ h' = h) := by
  refine qM.of (plainFor_of_name (by decide)) (Nat.le_of_ble_eq_true rfl) ?_
  refine V_aload_n 1 dX5_pricedParts_0 rfl rfl ?_
  refine V_geti 4 5 4 fl_X5_26 dX5_pricedParts_1 rfl rfl (by decide) rfl (by decide) ?_
  refine V_iconst (v := 2) 5 dX5_pricedParts_4 rfl (by decide) ?_
  refine V_icmp_ne 16 8 dX5_pricedParts_5 rfl rfl (fun c_5 => ?_) (fun c_5 => ?_)
  · skip
    refine V_lload_n 17 dX5_pricedParts_16 rfl rfl ?_
    refine V_lret dX5_pricedParts_17 rfl ⟨_, rfl, ?_⟩ (by first | exact Nat.le_refl _ | decide | omega) (by first | exact Nat.le_refl _ | decide | omega)
    exact ⟨by rw [if_neg c_5], rfl⟩
  · skip
    refine V_aload_n 9 dX5_pricedParts_8 rfl rfl ?_
    refine V_geti 12 5 5 fl_X5_29 dX5_pricedParts_9 rfl rfl (by decide) rfl (by decide) ?_
    refine V_iconst (v := 1) 13 dX5_pricedParts_12 rfl (by decide) ?_
    refine V_icmp_ge 18 16 dX5_pricedParts_13 rfl rfl (fun c_13 => ?_) (fun c_13 => ?_)
    · skip
      refine V_lload_n 19 dX5_pricedParts_18 rfl rfl ?_
      refine V_aload_n 20 dX5_pricedParts_19 rfl rfl ?_
      refine V_geti 23 5 5 fl_X5_29 dX5_pricedParts_20 rfl rfl (by decide) rfl (by decide) ?_
      refine V_i2l 24 dX5_pricedParts_23 rfl ?_
      refine V_ladd 25 dX5_pricedParts_24 rfl ?_
      refine V_lconst (v := 1) 26 dX5_pricedParts_25 rfl (by decide) ?_
      refine V_lsub 27 dX5_pricedParts_26 rfl ?_
      refine V_aload_n 28 dX5_pricedParts_27 rfl rfl ?_
      refine V_geti 31 5 5 fl_X5_29 dX5_pricedParts_28 rfl rfl (by decide) rfl (by decide) ?_
      refine V_i2l 32 dX5_pricedParts_31 rfl ?_
      refine V_ldiv 33 dX5_pricedParts_32 rfl (i64_ne0 hz) ?_
      refine V_lret dX5_pricedParts_33 rfl ⟨_, rfl, ?_⟩ (by first | exact Nat.le_refl _ | decide | omega) (by first | exact Nat.le_refl _ | decide | omega)
      exact ⟨by rw [if_pos c_5], rfl⟩
    · skip
      exact absurd hz c_13
def f_cst (h : qH) (p k : Nat) (n : Int64) : Nat → Nat → Int64 → Int64 → Int64 := cst (qg_i h 18 p 4).toInt64 (qg_i h 18 p 5).toInt64 k (fun j => qg_l h 19 p j) (fun j => (qg_i h 20 p j).toInt64) (fun j => (qg_i h 21 p j).toInt64) n
def f_cost (h : qH) (p k : Nat) (n : Int64) : Int64 := f_cst h p k n (k + 1) 0 0 0
theorem lp_X5_byTiers {p k : Nat} {n : Int64} (hS : SHC h NA NH NI) (hp : p < 48) (hk : k < 5) (hz : 1 ≤ qg_i h 18 p 5) (hm : ¬ qg_i h 18 p 4 = 1) (e : qg_i h 18 p 3 = nI (k + 1)) {n0 : Nat → Nat} {Post : Option qV → qH → Prop} :
    ∀ (m j : Nat), j + m = k + 1 → ∀ sum be, Post (some (.inr (.inl (f_cst h p k n m j sum be)))) h → Vw yX5_costByTiers cX5_costByTiers 10 ((some .long)) (qrm 1 23 0 0) 0 0 n0 Post 8 [(0, .inr (.inr (some (18, p)))), (1, .inr (.inl n)), (3, .inr (.inl sum)), (5, .inr (.inl be)), (7, .inl (nI j))] [] h 0 0 := by
  intro m
  induction m with
  | zero =>
    intro j hj sum be hP
    have hj : j = k + 1 := by omega
    subst hj
    refine V_iload 10 dX5_costByTiers_8 rfl rfl ?_
    refine V_aload_n 11 dX5_costByTiers_10 rfl rfl ?_
    refine V_getiV 14 5 3 fl_X5_22 dX5_costByTiers_11 rfl rfl (by decide) rfl (by decide) e ?_
    refine V_icmp_ge 92 17 dX5_costByTiers_14 rfl rfl (fun c_14 => ?_) (fun c_14 => ?_)
    · skip
      refine V_lload_n 93 dX5_costByTiers_92 rfl rfl ?_
      refine V_lret dX5_costByTiers_93 rfl ?_ (by first | exact Nat.le_refl _ | decide | omega) (by first | exact Nat.le_refl _ | decide | omega)
      exact hP
    · skip
      exact absurd (nI_le (Nat.le_refl _) (by omega)) c_14
  | succ m ih =>
    intro j hj sum be hP
    have ek : nI j = nI k ↔ j = k := nI_eq (by omega) (by omega)
    have hP2 : be < n → ∀ S B, B = (if j = k then n else m_min n (qg_l h 19 p j)) → S = sum + ((if qg_i h 18 p 4 = 2 then (B - be + (qg_i h 18 p 5).toInt64 - 1) / (qg_i h 18 p 5).toInt64 else B - be) * (qg_i h 20 p j).toInt64 + (qg_i h 21 p j).toInt64) → Post (some (.inr (.inl (f_cst h p k n m (j + 1) S B)))) h := by
      intro hb S B e1 e2
      unfold f_cst at hP ⊢
      rw [cst, if_pos hb] at hP
      rw [e2]
      have h1 : ¬ (qg_i h 18 p 4).toInt64 = 1 := fun q => hm (i64_inj (y := 1) q)
      have h2 : (qg_i h 18 p 4).toInt64 = 2 ↔ qg_i h 18 p 4 = 2 := ⟨fun q => i64_inj (y := 2) q, fun q => by rw [q]; rfl⟩
      simp only [cst1, if_neg h1, h2] at hP
      rw [← e1] at hP
      exact hP
    have hP3 : ¬ be < n → Post (some (.inr (.inl sum))) h := by
      intro hb
      unfold f_cst at hP
      rw [cst, if_neg hb] at hP
      exact hP
    clear hP
    refine V_iload 10 dX5_costByTiers_8 rfl rfl ?_
    refine V_aload_n 11 dX5_costByTiers_10 rfl rfl ?_
    refine V_getiV 14 5 3 fl_X5_22 dX5_costByTiers_11 rfl rfl (by decide) rfl (by decide) e ?_
    refine V_icmp_ge 92 17 dX5_costByTiers_14 rfl rfl (fun c_14 => ?_) (fun c_14 => ?_)
    · skip
      exact absurd c_14 (nI_ge (by omega) (by omega))
    · skip
      refine V_lload 19 dX5_costByTiers_17 rfl rfl ?_
      refine V_lload_n 20 dX5_costByTiers_19 rfl rfl ?_
      refine V_lcmp 21 dX5_costByTiers_20 rfl ?_
      refine V_if_ge 92 24 dX5_costByTiers_21 rfl rfl (fun c_21 => ?_) (fun c_21 => ?_)
      · (rw [lg_ge] at c_21)
        refine V_lload_n 93 dX5_costByTiers_92 rfl rfl ?_
        refine V_lret dX5_costByTiers_93 rfl ?_ (by first | exact Nat.le_refl _ | decide | omega) (by first | exact Nat.le_refl _ | decide | omega)
        exact hP3 (by grind)
      · (rw [lg_ge] at c_21)
        refine V_iload 26 dX5_costByTiers_24 rfl rfl ?_
        refine V_aload_n 27 dX5_costByTiers_26 rfl rfl ?_
        refine V_getiV 30 5 3 fl_X5_22 dX5_costByTiers_27 rfl rfl (by decide) rfl (by decide) e ?_
        refine V_iconst (v := 1) 31 dX5_costByTiers_30 rfl (by decide) ?_
        refine V_isub 32 dX5_costByTiers_31 rfl ?_
        rw [nI_pred]
        refine V_icmp_ne 39 35 dX5_costByTiers_32 rfl rfl (fun c_32 => ?_) (fun c_32 => ?_)
        · skip
          refine V_lload_n 40 dX5_costByTiers_39 rfl rfl ?_
          refine V_aload_n 41 dX5_costByTiers_40 rfl rfl ?_
          refine V_getR 44 5 0 fl_X5_9 dX5_costByTiers_41 rfl rfl (by decide) (Or.inr ⟨_, rfl⟩) (by decide) (sh_5_0 hS (by omega)) ?_
          refine V_iload 46 dX5_costByTiers_44 rfl rfl ?_
          refine V_laldN 47 (_) dX5_costByTiers_46 rfl rfl (by decide) rfl (show _ < 5 by omega) (by decide) ?_
          refine V_cS2l 50 (ct_J9_min_f86c9 _ _ _) cs_X5_49 dX5_costByTiers_47 rfl ⟨Nat.le_of_ble_eq_true rfl, Nat.le_of_ble_eq_true rfl⟩ (Nat.le_of_ble_eq_true rfl) ⟨Nat.le_of_ble_eq_true rfl, Nat.le_of_ble_eq_true rfl⟩ (fun x h' hx hle => ?_)
          obtain ⟨rfl, rfl⟩ := hx
          refine V_lstore 52 dX5_costByTiers_50 rfl (by decide) ?_
          refine V_lload_n 53 dX5_costByTiers_52 rfl rfl ?_
          refine V_aload_n 54 dX5_costByTiers_53 rfl rfl ?_
          refine V_lload 56 dX5_costByTiers_54 rfl rfl ?_
          refine V_lload 58 dX5_costByTiers_56 rfl rfl ?_
          refine V_lsub 59 dX5_costByTiers_58 rfl ?_
          refine V_cV1l 62 (ct_X5_pricedParts hz) cs_X5_53 rfl rfl (by decide) dX5_costByTiers_59 rfl ⟨Nat.le_of_ble_eq_true rfl, Nat.le_of_ble_eq_true rfl⟩ (Nat.le_of_ble_eq_true rfl) ⟨Nat.le_of_ble_eq_true rfl, Nat.le_of_ble_eq_true rfl⟩ (fun x h' hx hle => ?_)
          obtain ⟨rfl, rfl⟩ := hx
          refine V_aload_n 63 dX5_costByTiers_62 rfl rfl ?_
          refine V_getR 66 5 1 fl_X5_15 dX5_costByTiers_63 rfl rfl (by decide) (Or.inr ⟨_, rfl⟩) (by decide) (sh_5_1 hS (by omega)) ?_
          refine V_iload 68 dX5_costByTiers_66 rfl rfl ?_
          refine V_ialdN 69 (_) dX5_costByTiers_68 rfl rfl (by decide) rfl (show _ < 5 by omega) (by decide) ?_
          refine V_i2l 70 dX5_costByTiers_69 rfl ?_
          refine V_lmul 71 dX5_costByTiers_70 rfl ?_
          refine V_aload_n 72 dX5_costByTiers_71 rfl rfl ?_
          refine V_getR 75 5 2 fl_X5_19 dX5_costByTiers_72 rfl rfl (by decide) (Or.inr ⟨_, rfl⟩) (by decide) (sh_5_2 hS (by omega)) ?_
          refine V_iload 77 dX5_costByTiers_75 rfl rfl ?_
          refine V_ialdN 78 (_) dX5_costByTiers_77 rfl rfl (by decide) rfl (show _ < 5 by omega) (by decide) ?_
          refine V_i2l 79 dX5_costByTiers_78 rfl ?_
          refine V_ladd 80 dX5_costByTiers_79 rfl ?_
          refine V_ladd 81 dX5_costByTiers_80 rfl ?_
          refine V_lstore_n 82 dX5_costByTiers_81 rfl (by decide) ?_
          refine V_lload 84 dX5_costByTiers_82 rfl rfl ?_
          refine V_lstore 86 dX5_costByTiers_84 rfl (by decide) ?_
          refine V_iincN 89 dX5_costByTiers_86 rfl rfl (by decide) ?_
          refine V_goto 8 dX5_costByTiers_89 rfl ?_
          refine V_at (ih (j + 1) (by omega) _ _ (hP2 (by grind) _ _ ?_ rfl)) ⟨rfl, rfl, rfl, rfl, rfl, trivial⟩
          simp only [m_min]
          grind
        · skip
          refine V_lload_n 36 dX5_costByTiers_35 rfl rfl ?_
          refine V_goto 50 dX5_costByTiers_36 rfl ?_
          refine V_lstore 52 dX5_costByTiers_50 rfl (by decide) ?_
          refine V_lload_n 53 dX5_costByTiers_52 rfl rfl ?_
          refine V_aload_n 54 dX5_costByTiers_53 rfl rfl ?_
          refine V_lload 56 dX5_costByTiers_54 rfl rfl ?_
          refine V_lload 58 dX5_costByTiers_56 rfl rfl ?_
          refine V_lsub 59 dX5_costByTiers_58 rfl ?_
          refine V_cV1l 62 (ct_X5_pricedParts hz) cs_X5_53 rfl rfl (by decide) dX5_costByTiers_59 rfl ⟨Nat.le_of_ble_eq_true rfl, Nat.le_of_ble_eq_true rfl⟩ (Nat.le_of_ble_eq_true rfl) ⟨Nat.le_of_ble_eq_true rfl, Nat.le_of_ble_eq_true rfl⟩ (fun x h' hx hle => ?_)
          obtain ⟨rfl, rfl⟩ := hx
          refine V_aload_n 63 dX5_costByTiers_62 rfl rfl ?_
          refine V_getR 66 5 1 fl_X5_15 dX5_costByTiers_63 rfl rfl (by decide) (Or.inr ⟨_, rfl⟩) (by decide) (sh_5_1 hS (by omega)) ?_
          refine V_iload 68 dX5_costByTiers_66 rfl rfl ?_
          refine V_ialdN 69 (_) dX5_costByTiers_68 rfl rfl (by decide) rfl (show _ < 5 by omega) (by decide) ?_
          refine V_i2l 70 dX5_costByTiers_69 rfl ?_
          refine V_lmul 71 dX5_costByTiers_70 rfl ?_
          refine V_aload_n 72 dX5_costByTiers_71 rfl rfl ?_
          refine V_getR 75 5 2 fl_X5_19 dX5_costByTiers_72 rfl rfl (by decide) (Or.inr ⟨_, rfl⟩) (by decide) (sh_5_2 hS (by omega)) ?_
          refine V_iload 77 dX5_costByTiers_75 rfl rfl ?_
          refine V_ialdN 78 (_) dX5_costByTiers_77 rfl rfl (by decide) rfl (show _ < 5 by omega) (by decide) ?_
          refine V_i2l 79 dX5_costByTiers_78 rfl ?_
          refine V_ladd 80 dX5_costByTiers_79 rfl ?_
          refine V_ladd 81 dX5_costByTiers_80 rfl ?_
          refine V_lstore_n 82 dX5_costByTiers_81 rfl (by decide) ?_
          refine V_lload 84 dX5_costByTiers_82 rfl rfl ?_
          refine V_lstore 86 dX5_costByTiers_84 rfl (by decide) ?_
          refine V_iincN 89 dX5_costByTiers_86 rfl rfl (by decide) ?_
          refine V_goto 8 dX5_costByTiers_89 rfl ?_
          refine V_at (ih (j + 1) (by omega) _ _ (hP2 (by grind) _ _ ?_ rfl)) ⟨rfl, rfl, rfl, rfl, rfl, trivial⟩
          simp only [m_min]
          grind
theorem ct_X5_costByTiers {p k : Nat} {n : Int64} (hS : SHC h NA NH NI) (hp : p < 48) (hk : k < 5) (hz : 1 ≤ qg_i h 18 p 5) (hm : ¬ qg_i h 18 p 4 = 1) (e : qg_i h 18 p 3 = nI (k + 1)) : qM yX5_costByTiers cX5_costByTiers 10 ((some .long)) 1 23 0 0 [.inr (.inr (some (18, p))), .inr (.inl n)] h (pL fun x h' => x = f_cost h p k n ∧ h' = h) := by
  refine qM.of (plainFor_of_name (by decide)) (Nat.le_of_ble_eq_true rfl) ?_
  refine V_lconst (v := 0) 1 dX5_costByTiers_0 rfl (by decide) ?_
  refine V_lstore_n 2 dX5_costByTiers_1 rfl (by decide) ?_
  refine V_lconst (v := 0) 3 dX5_costByTiers_2 rfl (by decide) ?_
  refine V_lstore 5 dX5_costByTiers_3 rfl (by decide) ?_
  refine V_iconst (v := 0) 6 dX5_costByTiers_5 rfl (by decide) ?_
  refine V_istore 8 dX5_costByTiers_6 rfl (by decide) ?_
  exact V_at (lp_X5_byTiers hS hp hk hz hm e (k + 1) 0 (by omega) 0 0 ⟨_, rfl, rfl, rfl⟩) ⟨rfl, rfl, rfl, rfl, rfl, trivial⟩
theorem lp_X5_atLast {p k : Nat} {n : Int64} (hS : SHC h NA NH NI) (hp : p < 48) (hk : k < 5) (hm : qg_i h 18 p 4 = 1) (e : qg_i h 18 p 3 = nI (k + 1)) {n0 : Nat → Nat} {Post : Option qV → qH → Prop} :
    ∀ (m j : Nat), j + m = k → ∀ sum be, be < n → Post (some (.inr (.inl (f_cst h p k n (m + 1) j sum be)))) h → Vw yX5_costAtLastTier cX5_costAtLastTier 4 ((some .long)) (qrm 0 0 0 0) 0 0 n0 Post 2 [(0, .inr (.inr (some (18, p)))), (1, .inr (.inl n)), (3, .inl (nI j))] [] h 0 0 := by
  intro m
  induction m with
  | zero =>
    intro j hj sum be hb hP
    have hj : j = k := by omega
    subst hj
    unfold f_cst at hP
    rw [cst, if_pos hb, cst] at hP
    simp only [cst1, hm, if_true, show ((1 : Int32).toInt64 = 1) from rfl] at hP
    refine V_iload_n 3 dX5_costAtLastTier_2 rfl rfl ?_
    refine V_aload_n 4 dX5_costAtLastTier_3 rfl rfl ?_
    refine V_getiV 7 5 3 fl_X5_22 dX5_costAtLastTier_4 rfl rfl (by decide) rfl (by decide) e ?_
    refine V_iconst (v := 1) 8 dX5_costAtLastTier_7 rfl (by decide) ?_
    refine V_isub 9 dX5_costAtLastTier_8 rfl ?_
    rw [nI_pred]
    refine V_icmp_ge 29 12 dX5_costAtLastTier_9 rfl rfl (fun c_9 => ?_) (fun c_9 => ?_)
    · skip
      refine V_lload_n 30 dX5_costAtLastTier_29 rfl rfl ?_
      refine V_aload_n 31 dX5_costAtLastTier_30 rfl rfl ?_
      refine V_getR 34 5 1 fl_X5_15 dX5_costAtLastTier_31 rfl rfl (by decide) (Or.inr ⟨_, rfl⟩) (by decide) (sh_5_1 hS (by omega)) ?_
      refine V_iload_n 35 dX5_costAtLastTier_34 rfl rfl ?_
      refine V_ialdN 36 (_) dX5_costAtLastTier_35 rfl rfl (by decide) rfl (show _ < 5 by omega) (by decide) ?_
      refine V_i2l 37 dX5_costAtLastTier_36 rfl ?_
      refine V_lmul 38 dX5_costAtLastTier_37 rfl ?_
      refine V_aload_n 39 dX5_costAtLastTier_38 rfl rfl ?_
      refine V_getR 42 5 2 fl_X5_19 dX5_costAtLastTier_39 rfl rfl (by decide) (Or.inr ⟨_, rfl⟩) (by decide) (sh_5_2 hS (by omega)) ?_
      refine V_iload_n 43 dX5_costAtLastTier_42 rfl rfl ?_
      refine V_ialdN 44 (_) dX5_costAtLastTier_43 rfl rfl (by decide) rfl (show _ < 5 by omega) (by decide) ?_
      refine V_i2l 45 dX5_costAtLastTier_44 rfl ?_
      refine V_ladd 46 dX5_costAtLastTier_45 rfl ?_
      refine V_lret dX5_costAtLastTier_46 rfl ?_ (by first | exact Nat.le_refl _ | decide | omega) (by first | exact Nat.le_refl _ | decide | omega)
      exact hP
    · skip
      exact absurd (nI_le (Nat.le_refl _) (by omega)) c_9
  | succ m ih =>
    intro j hj sum be hb hP
    have hjk : ¬ j = k := by omega
    have hP1 : Post (some (.inr (.inl (f_cst h p k n (m + 1) (j + 1) (n * (qg_i h 20 p j).toInt64 + (qg_i h 21 p j).toInt64) (m_min n (qg_l h 19 p j)))))) h := by
      unfold f_cst at hP ⊢
      rw [cst, if_pos hb] at hP
      simp only [cst1, hm, if_true, show ((1 : Int32).toInt64 = 1) from rfl, if_neg hjk] at hP ⊢
      exact hP
    refine V_iload_n 3 dX5_costAtLastTier_2 rfl rfl ?_
    refine V_aload_n 4 dX5_costAtLastTier_3 rfl rfl ?_
    refine V_getiV 7 5 3 fl_X5_22 dX5_costAtLastTier_4 rfl rfl (by decide) rfl (by decide) e ?_
    refine V_iconst (v := 1) 8 dX5_costAtLastTier_7 rfl (by decide) ?_
    refine V_isub 9 dX5_costAtLastTier_8 rfl ?_
    rw [nI_pred]
    refine V_icmp_ge 29 12 dX5_costAtLastTier_9 rfl rfl (fun c_9 => ?_) (fun c_9 => ?_)
    · skip
      exact absurd c_9 (nI_ge (by omega) (by omega))
    · skip
      refine V_lload_n 13 dX5_costAtLastTier_12 rfl rfl ?_
      refine V_aload_n 14 dX5_costAtLastTier_13 rfl rfl ?_
      refine V_getR 17 5 0 fl_X5_9 dX5_costAtLastTier_14 rfl rfl (by decide) (Or.inr ⟨_, rfl⟩) (by decide) (sh_5_0 hS (by omega)) ?_
      refine V_iload_n 18 dX5_costAtLastTier_17 rfl rfl ?_
      refine V_laldN 19 (_) dX5_costAtLastTier_18 rfl rfl (by decide) rfl (show _ < 5 by omega) (by decide) ?_
      refine V_lcmp 20 dX5_costAtLastTier_19 rfl ?_
      refine V_if_le 29 23 dX5_costAtLastTier_20 rfl rfl (fun c_20 => ?_) (fun c_20 => ?_)
      · (rw [lg_le] at c_20)
        refine V_lload_n 30 dX5_costAtLastTier_29 rfl rfl ?_
        refine V_aload_n 31 dX5_costAtLastTier_30 rfl rfl ?_
        refine V_getR 34 5 1 fl_X5_15 dX5_costAtLastTier_31 rfl rfl (by decide) (Or.inr ⟨_, rfl⟩) (by decide) (sh_5_1 hS (by omega)) ?_
        refine V_iload_n 35 dX5_costAtLastTier_34 rfl rfl ?_
        refine V_ialdN 36 (_) dX5_costAtLastTier_35 rfl rfl (by decide) rfl (show _ < 5 by omega) (by decide) ?_
        refine V_i2l 37 dX5_costAtLastTier_36 rfl ?_
        refine V_lmul 38 dX5_costAtLastTier_37 rfl ?_
        refine V_aload_n 39 dX5_costAtLastTier_38 rfl rfl ?_
        refine V_getR 42 5 2 fl_X5_19 dX5_costAtLastTier_39 rfl rfl (by decide) (Or.inr ⟨_, rfl⟩) (by decide) (sh_5_2 hS (by omega)) ?_
        refine V_iload_n 43 dX5_costAtLastTier_42 rfl rfl ?_
        refine V_ialdN 44 (_) dX5_costAtLastTier_43 rfl rfl (by decide) rfl (show _ < 5 by omega) (by decide) ?_
        refine V_i2l 45 dX5_costAtLastTier_44 rfl ?_
        refine V_ladd 46 dX5_costAtLastTier_45 rfl ?_
        refine V_lret dX5_costAtLastTier_46 rfl ?_ (by first | exact Nat.le_refl _ | decide | omega) (by first | exact Nat.le_refl _ | decide | omega)
        have e1 : m_min n (qg_l h 19 p j) = n := by simp only [m_min]; grind
        rw [e1] at hP1
        unfold f_cst at hP1
        rw [cst, if_neg (by grind)] at hP1
        exact hP1
      · (rw [lg_le] at c_20)
        refine V_iincN 26 dX5_costAtLastTier_23 rfl rfl (by decide) ?_
        refine V_goto 2 dX5_costAtLastTier_26 rfl ?_
        refine V_at (ih (j + 1) (by omega) _ (m_min n (qg_l h 19 p j)) ?_ hP1) ⟨rfl, rfl, rfl, trivial⟩
        simp only [m_min]
        grind
theorem ct_X5_costAtLastTier {p k : Nat} {n : Int64} (hS : SHC h NA NH NI) (hp : p < 48) (hk : k < 5) (hm : qg_i h 18 p 4 = 1) (hn : 0 < n) (e : qg_i h 18 p 3 = nI (k + 1)) : qM yX5_costAtLastTier cX5_costAtLastTier 4 ((some .long)) 0 0 0 0 [.inr (.inr (some (18, p))), .inr (.inl n)] h (pL fun x h' => x = f_cost h p k n ∧ h' = h) := by
  refine qM.of (plainFor_of_name (by decide)) (Nat.le_of_ble_eq_true rfl) ?_
  refine V_iconst (v := 0) 1 dX5_costAtLastTier_0 rfl (by decide) ?_
  refine V_istore_n 2 dX5_costAtLastTier_1 rfl (by decide) ?_
  exact V_at (lp_X5_atLast hS hp hk hm e k 0 (by omega) 0 0 hn ⟨_, rfl, rfl, rfl⟩) ⟨rfl, rfl, rfl, trivial⟩
theorem ct_X5_costOf {p k : Nat} {n : Int64} (hS : SHC h NA NH NI) (hp : p < 48) (hk : k < 5) (hz : 1 ≤ qg_i h 18 p 5) (e : qg_i h 18 p 3 = nI (k + 1)) : qM yX5_costOf cX5_costOf 3 ((some .long)) 2 52 0 0 [.inr (.inr (some (18, p))), .inr (.inl n)] h (pL fun x h' => x = f_cost h p k n ∧ h' = h) := by
  refine qM.of (plainFor_of_name (by decide)) (Nat.le_of_ble_eq_true rfl) ?_
  refine V_lload_n 1 dX5_costOf_0 rfl rfl ?_
  refine V_lconst (v := 0) 2 dX5_costOf_1 rfl (by decide) ?_
  refine V_lcmp 3 dX5_costOf_2 rfl ?_
  refine V_if_gt 8 6 dX5_costOf_3 rfl rfl (fun c_3 => ?_) (fun c_3 => ?_)
  · (rw [lg_gt] at c_3)
    refine V_aload_n 9 dX5_costOf_8 rfl rfl ?_
    refine V_geti 12 5 4 fl_X5_26 dX5_costOf_9 rfl rfl (by decide) rfl (by decide) ?_
    refine V_iconst (v := 1) 13 dX5_costOf_12 rfl (by decide) ?_
    refine V_icmp_ne 24 16 dX5_costOf_13 rfl rfl (fun c_13 => ?_) (fun c_13 => ?_)
    · skip
      refine V_aload_n 25 dX5_costOf_24 rfl rfl ?_
      refine V_lload_n 26 dX5_costOf_25 rfl rfl ?_
      refine V_cV1l 29 (ct_X5_costByTiers hS hp hk hz (by grind) e) cs_X5_46 rfl rfl (by decide) dX5_costOf_26 rfl ⟨Nat.le_of_ble_eq_true rfl, Nat.le_of_ble_eq_true rfl⟩ (Nat.le_of_ble_eq_true rfl) ⟨Nat.le_of_ble_eq_true rfl, Nat.le_of_ble_eq_true rfl⟩ (fun x h' hx hle => ?_)
      obtain ⟨rfl, rfl⟩ := hx
      refine V_lret dX5_costOf_29 rfl ⟨_, rfl, ?_⟩ (by first | exact Nat.le_refl _ | decide | omega) (by first | exact Nat.le_refl _ | decide | omega)
      exact ⟨rfl, rfl⟩
    · skip
      refine V_aload_n 17 dX5_costOf_16 rfl rfl ?_
      refine V_lload_n 18 dX5_costOf_17 rfl rfl ?_
      refine V_cV1l 21 (ct_X5_costAtLastTier hS hp hk (by grind) (by grind) e) cs_X5_42 rfl rfl (by decide) dX5_costOf_18 rfl ⟨Nat.le_of_ble_eq_true rfl, Nat.le_of_ble_eq_true rfl⟩ (Nat.le_of_ble_eq_true rfl) ⟨Nat.le_of_ble_eq_true rfl, Nat.le_of_ble_eq_true rfl⟩ (fun x h' hx hle => ?_)
      obtain ⟨rfl, rfl⟩ := hx
      refine V_goto 29 dX5_costOf_21 rfl ?_
      refine V_lret dX5_costOf_29 rfl ⟨_, rfl, ?_⟩ (by first | exact Nat.le_refl _ | decide | omega) (by first | exact Nat.le_refl _ | decide | omega)
      exact ⟨rfl, rfl⟩
  · (rw [lg_gt] at c_3)
    refine V_lconst (v := 0) 7 dX5_costOf_6 rfl (by decide) ?_
    refine V_lret dX5_costOf_7 rfl ⟨_, rfl, ?_⟩ (by first | exact Nat.le_refl _ | decide | omega) (by first | exact Nat.le_refl _ | decide | omega)
    refine ⟨?_, rfl⟩
    unfold f_cost f_cst
    rw [cst, if_neg (by grind)]
/-- do the lasts rise -/
def f_own (h : qH) (p j : Nat) (last : Int64) (i : Nat) : Int64 := if i = j then last else qg_l h 19 p i
def f_rise (h : qH) (p j : Nat) (last : Int64) (i : Nat) : Prop := (if i = 0 then 0 else f_own h p j last (i - 1)) < f_own h p j last i
theorem lp_X5_rise {p j th : Nat} {last : Int64} (hS : SHC h NA NH NI) (hp : p < 48) (hj : j < 5) (hth : 1 ≤ th ∧ th ≤ 5) {n0 : Nat → Nat} {Post : Option qV → qH → Prop} (hB : (¬ ∀ i, i + 1 < th → f_rise h p j last i) → Post (some (.inl 0)) h) (hG : (∀ i, i + 1 < th → f_rise h p j last i) → Post (some (.inl 1)) h) :
    ∀ (m i : Nat), i + m = 5 → i < th → (∀ i', i' < i → f_rise h p j last i') → Vw yX5_wouldRise cX5_wouldRise 10 ((some .boolean)) (qrm 0 0 0 0) 0 0 n0 Post 6 [(0, .inr (.inr (some (18, p)))), (1, .inl (nI j)), (2, .inr (.inl last)), (4, .inl (nI th)), (5, .inr (.inl (if i = 0 then 0 else f_own h p j last (i - 1)))), (7, .inl (nI i))] [] h 0 0 := by
  have et : nI th - 1 = nI (th - 1) := by
    obtain ⟨q, rfl⟩ : ∃ q, th = q + 1 := ⟨th - 1, by omega⟩
    exact nI_pred q
  intro m
  induction m with
  | zero => intro i hi hl _; omega
  | succ m ih =>
    intro i hi hl hno
    have i2 : nI i = nI j ↔ i = j := nI_eq (by omega) (by omega)
    have i3 : nI (th - 1) ≤ nI i ↔ th - 1 ≤ i := nI_leI (by omega) (by omega)
    have nxt : f_rise h p j last i → i + 1 < th → ∀ z, z = f_own h p j last i → Vw yX5_wouldRise cX5_wouldRise 10 ((some .boolean)) (qrm 0 0 0 0) 0 0 n0 Post 6 [(0, .inr (.inr (some (18, p)))), (1, .inl (nI j)), (2, .inr (.inl last)), (4, .inl (nI th)), (5, .inr (.inl z)), (7, .inl (nI (i + 1)))] [] h 0 0 := by
      intro hri hlt z hz
      subst hz
      refine V_at (ih (i + 1) (by omega) hlt (fun i' q => ?_)) ⟨rfl, rfl, rfl, rfl, rfl, rfl, trivial⟩
      rcases Nat.lt_or_ge i' i with z | z
      · exact hno i' z
      · have : i' = i := by omega
        subst this
        exact hri
    refine V_iload 8 dX5_wouldRise_6 rfl rfl ?_
    refine V_iload 10 dX5_wouldRise_8 rfl rfl ?_
    refine V_iconst (v := 1) 11 dX5_wouldRise_10 rfl (by decide) ?_
    refine V_isub 12 dX5_wouldRise_11 rfl ?_
    rw [et]
    refine V_icmp_ge 54 15 dX5_wouldRise_12 rfl rfl (fun c_12 => ?_) (fun c_12 => ?_)
    · skip
      have hge : th - 1 ≤ i := i3.mp c_12
      refine V_iconst (v := 1) 55 dX5_wouldRise_54 rfl (by decide) ?_
      refine V_iret dX5_wouldRise_55 rfl rfl ?_ (by first | exact Nat.le_refl _ | decide | omega) (by first | exact Nat.le_refl _ | decide | omega)
      exact hG (fun i' q => hno i' (by omega))
    · skip
      have hlt : ¬ th - 1 ≤ i := fun q => c_12 (i3.mpr q)
      refine V_iload 17 dX5_wouldRise_15 rfl rfl ?_
      refine V_iload_n 18 dX5_wouldRise_17 rfl rfl ?_
      refine V_icmp_ne 25 21 dX5_wouldRise_18 rfl rfl (fun c_18 => ?_) (fun c_18 => ?_)
      · skip
        refine V_aload_n 26 dX5_wouldRise_25 rfl rfl ?_
        refine V_getR 29 5 0 fl_X5_9 dX5_wouldRise_26 rfl rfl (by decide) (Or.inr ⟨_, rfl⟩) (by decide) (sh_5_0 hS (by omega)) ?_
        refine V_iload 31 dX5_wouldRise_29 rfl rfl ?_
        refine V_laldN 32 (_) dX5_wouldRise_31 rfl rfl (by decide) rfl (show _ < 5 by omega) (by decide) ?_
        refine V_lstore 34 dX5_wouldRise_32 rfl (by decide) ?_
        refine V_lload 36 dX5_wouldRise_34 rfl rfl ?_
        refine V_lload 38 dX5_wouldRise_36 rfl rfl ?_
        refine V_lcmp 39 dX5_wouldRise_38 rfl ?_
        refine V_if_gt 44 42 dX5_wouldRise_39 rfl rfl (fun c_39 => ?_) (fun c_39 => ?_)
        · (rw [lg_gt] at c_39)
          refine V_lload 46 dX5_wouldRise_44 rfl rfl ?_
          refine V_lstore 48 dX5_wouldRise_46 rfl (by decide) ?_
          refine V_iincN 51 dX5_wouldRise_48 rfl rfl (by decide) ?_
          refine V_goto 6 dX5_wouldRise_51 rfl ?_
          refine V_at (nxt ?_ (by omega) _ ?_) ⟨rfl, rfl, rfl, rfl, rfl, rfl, trivial⟩
          · unfold f_rise
            simp only [f_own] at c_39 ⊢
            grind
          · simp only [f_own]
            grind
        · (rw [lg_gt] at c_39)
          refine V_iconst (v := 0) 43 dX5_wouldRise_42 rfl (by decide) ?_
          refine V_iret dX5_wouldRise_43 rfl rfl ?_ (by first | exact Nat.le_refl _ | decide | omega) (by first | exact Nat.le_refl _ | decide | omega)
          refine hB (fun q => ?_)
          have := q i (by omega)
          unfold f_rise at this
          simp only [f_own] at this c_39
          grind
      · skip
        refine V_lload_n 22 dX5_wouldRise_21 rfl rfl ?_
        refine V_goto 32 dX5_wouldRise_22 rfl ?_
        refine V_lstore 34 dX5_wouldRise_32 rfl (by decide) ?_
        refine V_lload 36 dX5_wouldRise_34 rfl rfl ?_
        refine V_lload 38 dX5_wouldRise_36 rfl rfl ?_
        refine V_lcmp 39 dX5_wouldRise_38 rfl ?_
        refine V_if_gt 44 42 dX5_wouldRise_39 rfl rfl (fun c_39 => ?_) (fun c_39 => ?_)
        · (rw [lg_gt] at c_39)
          refine V_lload 46 dX5_wouldRise_44 rfl rfl ?_
          refine V_lstore 48 dX5_wouldRise_46 rfl (by decide) ?_
          refine V_iincN 51 dX5_wouldRise_48 rfl rfl (by decide) ?_
          refine V_goto 6 dX5_wouldRise_51 rfl ?_
          refine V_at (nxt ?_ (by omega) _ ?_) ⟨rfl, rfl, rfl, rfl, rfl, rfl, trivial⟩
          · unfold f_rise
            simp only [f_own] at c_39 ⊢
            grind
          · simp only [f_own]
            grind
        · (rw [lg_gt] at c_39)
          refine V_iconst (v := 0) 43 dX5_wouldRise_42 rfl (by decide) ?_
          refine V_iret dX5_wouldRise_43 rfl rfl ?_ (by first | exact Nat.le_refl _ | decide | omega) (by first | exact Nat.le_refl _ | decide | omega)
          refine hB (fun q => ?_)
          have := q i (by omega)
          unfold f_rise at this
          simp only [f_own] at this c_39
          grind
theorem ct_X5_wouldRise {p j th : Nat} {last : Int64} (hS : SHC h NA NH NI) (hp : p < 48) (hj : j < 5) (hth : 1 ≤ th ∧ th ≤ 5) : qM yX5_wouldRise cX5_wouldRise 10 ((some .boolean)) 0 0 0 0 [.inr (.inr (some (18, p))), .inl (nI j), .inr (.inl last), .inl (nI th)] h (pI fun x h' => (((∀ i, i + 1 < th → f_rise h p j last i) ∧ x = 1) ∨ ((¬ ∀ i, i + 1 < th → f_rise h p j last i) ∧ x = 0)) ∧ h' = h) := by
  refine qM.of (plainFor_of_name (by decide)) (Nat.le_of_ble_eq_true rfl) ?_
  refine V_lconst (v := 0) 1 dX5_wouldRise_0 rfl (by decide) ?_
  refine V_lstore 3 dX5_wouldRise_1 rfl (by decide) ?_
  refine V_iconst (v := 0) 4 dX5_wouldRise_3 rfl (by decide) ?_
  refine V_istore 6 dX5_wouldRise_4 rfl (by decide) ?_
  exact V_at (lp_X5_rise hS hp hj hth (fun q => ⟨_, rfl, Or.inr ⟨q, rfl⟩, rfl⟩) (fun q => ⟨_, rfl, Or.inl ⟨q, rfl⟩, rfl⟩) 5 0 (by omega) (by omega) (fun i' q => absurd q (Nat.not_lt_zero _))) ⟨rfl, rfl, rfl, rfl, rfl, rfl, trivial⟩
def f_tier (h : qH) (p j th : Nat) (last : Int64) (pr fe : Int32) : qH := qs_i (qs_i (qs_i (qs_l h 19 p j last) 20 p j pr) 21 p j fe) 18 p 3 (nI th)
theorem ct_X5_putTier {p tc : Nat} {j pr fe : Int32} {last : Int64} (hS : SHC h NA NH NI) (hp : p < 48) (htc : 1 ≤ tc ∧ tc ≤ 5) (e : qg_i h 18 p 3 = nI tc) : qM yX5_putTier cX5_putTier 7 ((some .boolean)) 1 29 0 0 [.inr (.inr (some (18, p))), .inl j, .inr (.inl last), .inl pr, .inl fe] h (pI fun x h' => (x = 0 ∧ h' = h ∧ ¬ ∃ j' : Nat, j = nI j' ∧ j' ≤ tc ∧ j' < 5 ∧ ∀ i, i + 1 < (if j' = tc then tc + 1 else tc) → f_rise h p j' last i) ∨ (x = 1 ∧ ∃ j' : Nat, (j = nI j' ∧ j' ≤ tc ∧ j' < 5 ∧ ∀ i, i + 1 < (if j' = tc then tc + 1 else tc) → f_rise h p j' last i) ∧ h' = f_tier h p j' (if j' = tc then tc + 1 else tc) last pr fe)) := by
  refine qM.of (plainFor_of_name (by decide)) (Nat.le_of_ble_eq_true rfl) ?_
  refine V_iload_n 1 dX5_putTier_0 rfl rfl ?_
  refine V_if_lt 17 4 dX5_putTier_1 rfl rfl (fun c_1 => ?_) (fun c_1 => ?_)
  · skip
    refine V_iconst (v := 0) 18 dX5_putTier_17 rfl (by decide) ?_
    refine V_iret dX5_putTier_18 rfl rfl ⟨_, rfl, ?_⟩ (by first | exact Nat.le_refl _ | decide | omega) (by first | exact Nat.le_refl _ | decide | omega)
    refine Or.inl ⟨rfl, rfl, ?_⟩
    rintro ⟨j', rfl, q1, q2, -⟩
    have a1 := nI_pos (show j' < 2 ^ 31 by omega)
    have a2 := nI_leI (show j' < 2 ^ 31 by omega) (show tc < 2 ^ 31 by omega)
    have a3 := nI_ltI (show j' < 2 ^ 31 by omega) (show 5 < 2 ^ 31 by omega)
    have a4 : nI 5 = 5 := rfl
    grind
  · skip
    refine V_iload_n 5 dX5_putTier_4 rfl rfl ?_
    refine V_aload_n 6 dX5_putTier_5 rfl rfl ?_
    refine V_getiV 9 5 3 fl_X5_22 dX5_putTier_6 rfl rfl (by decide) rfl (by decide) e ?_
    refine V_icmp_gt 17 12 dX5_putTier_9 rfl rfl (fun c_9 => ?_) (fun c_9 => ?_)
    · skip
      refine V_iconst (v := 0) 18 dX5_putTier_17 rfl (by decide) ?_
      refine V_iret dX5_putTier_18 rfl rfl ⟨_, rfl, ?_⟩ (by first | exact Nat.le_refl _ | decide | omega) (by first | exact Nat.le_refl _ | decide | omega)
      refine Or.inl ⟨rfl, rfl, ?_⟩
      rintro ⟨j', rfl, q1, q2, -⟩
      have a1 := nI_pos (show j' < 2 ^ 31 by omega)
      have a2 := nI_leI (show j' < 2 ^ 31 by omega) (show tc < 2 ^ 31 by omega)
      have a3 := nI_ltI (show j' < 2 ^ 31 by omega) (show 5 < 2 ^ 31 by omega)
      have a4 : nI 5 = 5 := rfl
      grind
    · skip
      refine V_iload_n 13 dX5_putTier_12 rfl rfl ?_
      refine V_iconst (v := 5) 14 dX5_putTier_13 rfl (by decide) ?_
      refine V_icmp_lt 19 17 dX5_putTier_14 rfl rfl (fun c_14 => ?_) (fun c_14 => ?_)
      · skip
        obtain ⟨j', hj5, rfl⟩ : ∃ j' : Nat, j' ≤ 4 ∧ j = nI j' := nI_of2 (M := 4) rfl c_1 (by grind)
        have hjt : j' ≤ tc := (nI_leI (by omega) (by omega)).mp (by grind)
        refine V_aload_n 20 dX5_putTier_19 rfl rfl ?_
        refine V_getiV 23 5 3 fl_X5_22 dX5_putTier_20 rfl rfl (by decide) rfl (by decide) e ?_
        refine V_iload_n 24 dX5_putTier_23 rfl rfl ?_
        refine V_iconst (v := 1) 25 dX5_putTier_24 rfl (by decide) ?_
        refine V_iadd 26 dX5_putTier_25 rfl ?_
        rw [nI_1]
        refine V_cS2i 29 (ct_J9_max_7cf53 _ _ _) cs_X5_32 dX5_putTier_26 rfl ⟨Nat.le_of_ble_eq_true rfl, Nat.le_of_ble_eq_true rfl⟩ (Nat.le_of_ble_eq_true rfl) ⟨Nat.le_of_ble_eq_true rfl, Nat.le_of_ble_eq_true rfl⟩ (fun x h' hx hle => ?_)
        obtain ⟨rfl, rfl⟩ := hx
        have eth : (if nI tc < nI (j' + 1) then nI (j' + 1) else nI tc) = nI (if j' = tc then tc + 1 else tc) := by
          have := nI_ltI (a := tc) (b := j' + 1) (by omega) (by omega)
          by_cases q : j' = tc
          · rw [if_pos q, if_pos (this.mpr (by omega)), q]
          · rw [if_neg q, if_neg (fun z => by have := this.mp z; omega)]
        rw [eth]
        refine V_istore 31 dX5_putTier_29 rfl (by decide) ?_
        refine V_aload_n 32 dX5_putTier_31 rfl rfl ?_
        refine V_iload_n 33 dX5_putTier_32 rfl rfl ?_
        refine V_lload_n 34 dX5_putTier_33 rfl rfl ?_
        refine V_iload 36 dX5_putTier_34 rfl rfl ?_
        refine V_cV3i 39 (ct_X5_wouldRise (th := if j' = tc then tc + 1 else tc) hS hp (by omega) (by split <;> omega)) cs_X5_38 rfl rfl (by decide) dX5_putTier_36 rfl ⟨Nat.le_of_ble_eq_true rfl, Nat.le_of_ble_eq_true rfl⟩ (Nat.le_of_ble_eq_true rfl) ⟨Nat.le_of_ble_eq_true rfl, Nat.le_of_ble_eq_true rfl⟩ (fun x h' hx hle => ?_)
        obtain ⟨hx, rfl⟩ := hx
        refine V_if_ne 44 42 dX5_putTier_39 rfl rfl (fun c_39 => ?_) (fun c_39 => ?_)
        · skip
          refine V_aload_n 45 dX5_putTier_44 rfl rfl ?_
          refine V_getR 48 5 0 fl_X5_9 dX5_putTier_45 rfl rfl (by decide) (Or.inr ⟨_, rfl⟩) (by decide) (sh_5_0 hS (by omega)) ?_
          refine V_iload_n 49 dX5_putTier_48 rfl rfl ?_
          refine V_lload_n 50 dX5_putTier_49 rfl rfl ?_
          refine V_lastN 51 (_) dX5_putTier_50 rfl rfl (by decide) rfl (show _ < 5 by omega) (by decide) ?_
          refine V_aload_n 52 dX5_putTier_51 rfl rfl ?_
          refine V_getR 55 5 1 fl_X5_15 dX5_putTier_52 rfl rfl (by decide) (Or.inr ⟨_, rfl⟩) (by decide) (sh_5_1 hS (by omega)) ?_
          refine V_iload_n 56 dX5_putTier_55 rfl rfl ?_
          refine V_iload 58 dX5_putTier_56 rfl rfl ?_
          refine V_iastN 59 (_) dX5_putTier_58 rfl rfl (by decide) rfl (show _ < 5 by omega) (by decide) ?_
          refine V_aload_n 60 dX5_putTier_59 rfl rfl ?_
          refine V_getR 63 5 2 fl_X5_19 dX5_putTier_60 rfl rfl (by decide) (Or.inr ⟨_, rfl⟩) (by decide) (sh_5_2 hS (by omega)) ?_
          refine V_iload_n 64 dX5_putTier_63 rfl rfl ?_
          refine V_iload 66 dX5_putTier_64 rfl rfl ?_
          refine V_iastN 67 (_) dX5_putTier_66 rfl rfl (by decide) rfl (show _ < 5 by omega) (by decide) ?_
          refine V_aload_n 68 dX5_putTier_67 rfl rfl ?_
          refine V_iload 70 dX5_putTier_68 rfl rfl ?_
          refine V_puti 73 5 3 fl_X5_22 dX5_putTier_70 rfl rfl (by decide) rfl (by decide) (Or.inl rfl) ?_
          refine V_iconst (v := 1) 74 dX5_putTier_73 rfl (by decide) ?_
          refine V_iret dX5_putTier_74 rfl rfl ⟨_, rfl, ?_⟩ (by first | exact Nat.le_refl _ | decide | omega) (by first | exact Nat.le_refl _ | decide | omega)
          refine Or.inr ⟨rfl, j', ⟨rfl, hjt, by omega, ?_⟩, rfl⟩
          rcases hx with ⟨q1, q2⟩ | ⟨q1, q2⟩
          · exact q1
          · exact absurd q2 c_39
        · skip
          refine V_iconst (v := 0) 43 dX5_putTier_42 rfl (by decide) ?_
          refine V_iret dX5_putTier_43 rfl rfl ⟨_, rfl, ?_⟩ (by first | exact Nat.le_refl _ | decide | omega) (by first | exact Nat.le_refl _ | decide | omega)
          refine Or.inl ⟨rfl, rfl, ?_⟩
          rintro ⟨j2, z1, z2, z3, z4⟩
          have : j' = j2 := (nI_eq (by omega) (by omega)).mp z1
          subst this
          rcases hx with ⟨q1, q2⟩ | ⟨q1, q2⟩
          · rw [q2] at c_39; exact absurd c_39 (by decide)
          · exact q1 z4
      · skip
        refine V_iconst (v := 0) 18 dX5_putTier_17 rfl (by decide) ?_
        refine V_iret dX5_putTier_18 rfl rfl ⟨_, rfl, ?_⟩ (by first | exact Nat.le_refl _ | decide | omega) (by first | exact Nat.le_refl _ | decide | omega)
        refine Or.inl ⟨rfl, rfl, ?_⟩
        rintro ⟨j', rfl, q1, q2, -⟩
        have a1 := nI_pos (show j' < 2 ^ 31 by omega)
        have a2 := nI_leI (show j' < 2 ^ 31 by omega) (show tc < 2 ^ 31 by omega)
        have a3 := nI_ltI (show j' < 2 ^ 31 by omega) (show 5 < 2 ^ 31 by omega)
        have a4 : nI 5 = 5 := rfl
        grind
/-- prices copied -/
def cp5 (h : qH) (p q : Nat) : Nat → qH
  | 0 => h
  | k + 1 => qs_i (qs_i (qs_l (cp5 h p q k) 19 p k (qg_l h 19 q k)) 20 p k (qg_i h 20 q k)) 21 p k (qg_i h 21 q k)
def f_copy (h : qH) (p q : Nat) : qH := qs_i (qs_i (qs_i (cp5 h p q 5) 18 p 3 (qg_i h 18 q 3)) 18 p 4 (qg_i h 18 q 4)) 18 p 5 (qg_i h 18 q 5)
theorem cp5_fr {p q : Nat} (hpq : p ≠ q) : ∀ k, (qg_n (cp5 h p q k) = qg_n h ∧ qg_r (cp5 h p q k) = qg_r h) ∧ (∀ j, qg_l (cp5 h p q k) 19 q j = qg_l h 19 q j ∧ qg_i (cp5 h p q k) 20 q j = qg_i h 20 q j ∧ qg_i (cp5 h p q k) 21 q j = qg_i h 21 q j) ∧ (∀ i, qg_i (cp5 h p q k) 18 i = qg_i h 18 i)
  | 0 => ⟨⟨rfl, rfl⟩, fun _ => ⟨rfl, rfl, rfl⟩, fun _ => rfl⟩
  | k + 1 => by
    obtain ⟨a1, a2, a3⟩ := cp5_fr hpq k
    refine ⟨a1, fun j => ?_, fun i => ?_⟩
    · rw [← (a2 j).1, ← (a2 j).2.1, ← (a2 j).2.2]
      simp [cp5, qll, qli, qii, qil, Ne.symm hpq]
    · rw [← a3 i]
      funext j
      simp [cp5, qii, qil]
theorem lp_X5_copy {p q : Nat} (hS : SHC h NA NH NI) (hp : p < 48) (hq : q < 48) (hpq : p ≠ q) {n0 : Nat → Nat} {Post : Option qV → qH → Prop} (hP : Post none (f_copy h p q)) :
    ∀ (m k : Nat), k + m = 5 → Vw yX5_copyFrom cX5_copyFrom 3 none (qrm 0 0 0 0) 0 0 n0 Post 2 [(0, .inr (.inr (some (18, p)))), (1, .inr (.inr (some (18, q)))), (2, .inl (nI k))] [] (cp5 h p q k) 0 0 := by
  intro m
  induction m with
  | zero =>
    intro k hk
    have hk : k = 5 := by omega
    subst hk
    obtain ⟨a1, a2, a3⟩ := cp5_fr (h := h) hpq 5
    refine V_iload_n 3 dX5_copyFrom_2 rfl rfl ?_
    refine V_iconst (v := 5) 4 dX5_copyFrom_3 rfl (by decide) ?_
    refine V_icmp_ge 49 7 dX5_copyFrom_4 rfl rfl (fun c_4 => ?_) (fun c_4 => ?_)
    · skip
      refine V_aload_n 50 dX5_copyFrom_49 rfl rfl ?_
      refine V_aload_n 51 dX5_copyFrom_50 rfl rfl ?_
      refine V_getiV 54 5 3 fl_X5_22 dX5_copyFrom_51 rfl rfl (by decide) rfl (by decide) (show _ = qg_i h 18 q 3 by rw [a3]) ?_
      refine V_puti 57 5 3 fl_X5_22 dX5_copyFrom_54 rfl rfl (by decide) rfl (by decide) (Or.inl rfl) ?_
      refine V_aload_n 58 dX5_copyFrom_57 rfl rfl ?_
      refine V_aload_n 59 dX5_copyFrom_58 rfl rfl ?_
      refine V_getiV 62 5 4 fl_X5_26 dX5_copyFrom_59 rfl rfl (by decide) rfl (by decide) (show _ = qg_i h 18 q 4 by simp [qii, Ne.symm hpq, a3]) ?_
      refine V_puti 65 5 4 fl_X5_26 dX5_copyFrom_62 rfl rfl (by decide) rfl (by decide) (Or.inl rfl) ?_
      refine V_aload_n 66 dX5_copyFrom_65 rfl rfl ?_
      refine V_aload_n 67 dX5_copyFrom_66 rfl rfl ?_
      refine V_getiV 70 5 5 fl_X5_29 dX5_copyFrom_67 rfl rfl (by decide) rfl (by decide) (show _ = qg_i h 18 q 5 by simp [qii, Ne.symm hpq, a3]) ?_
      refine V_puti 73 5 5 fl_X5_29 dX5_copyFrom_70 rfl rfl (by decide) rfl (by decide) (Or.inl rfl) ?_
      refine V_vret dX5_copyFrom_73 rfl ?_ (by first | exact Nat.le_refl _ | decide | omega) (by first | exact Nat.le_refl _ | decide | omega)
      exact hP
    · skip
      exact absurd (by decide) c_4
  | succ m ih =>
    intro k hk
    obtain ⟨a1, a2, a3⟩ := cp5_fr (h := h) hpq k
    have hSg : SHC (cp5 h p q k) NA NH NI := by unfold SHC; rw [a1.2]; exact hS
    refine V_iload_n 3 dX5_copyFrom_2 rfl rfl ?_
    refine V_iconst (v := 5) 4 dX5_copyFrom_3 rfl (by decide) ?_
    refine V_icmp_ge 49 7 dX5_copyFrom_4 rfl rfl (fun c_4 => ?_) (fun c_4 => ?_)
    · skip
      exact absurd c_4 (nI_ge (b := 5) (by omega) (by omega))
    · skip
      refine V_aload_n 8 dX5_copyFrom_7 rfl rfl ?_
      refine V_getR 11 5 0 fl_X5_9 dX5_copyFrom_8 rfl rfl (by decide) (Or.inr ⟨_, rfl⟩) (by decide) (sh_5_0 hSg (by omega)) ?_
      refine V_iload_n 12 dX5_copyFrom_11 rfl rfl ?_
      refine V_aload_n 13 dX5_copyFrom_12 rfl rfl ?_
      refine V_getR 16 5 0 fl_X5_9 dX5_copyFrom_13 rfl rfl (by decide) (Or.inr ⟨_, rfl⟩) (by decide) (sh_5_0 hSg (by omega)) ?_
      refine V_iload_n 17 dX5_copyFrom_16 rfl rfl ?_
      refine V_laldV 18 (_) dX5_copyFrom_17 rfl rfl (by decide) rfl (show _ < 5 by omega) (by decide) (a2 k).1 ?_
      refine V_lastN 19 (_) dX5_copyFrom_18 rfl rfl (by decide) rfl (show _ < 5 by omega) (by decide) ?_
      refine V_aload_n 20 dX5_copyFrom_19 rfl rfl ?_
      refine V_getR 23 5 1 fl_X5_15 dX5_copyFrom_20 rfl rfl (by decide) (Or.inr ⟨_, rfl⟩) (by decide) (sh_5_1 hSg (by omega)) ?_
      refine V_iload_n 24 dX5_copyFrom_23 rfl rfl ?_
      refine V_aload_n 25 dX5_copyFrom_24 rfl rfl ?_
      refine V_getR 28 5 1 fl_X5_15 dX5_copyFrom_25 rfl rfl (by decide) (Or.inr ⟨_, rfl⟩) (by decide) (sh_5_1 hSg (by omega)) ?_
      refine V_iload_n 29 dX5_copyFrom_28 rfl rfl ?_
      refine V_ialdV 30 (_) dX5_copyFrom_29 rfl rfl (by decide) rfl (show _ < 5 by omega) (by decide) (a2 k).2.1 ?_
      refine V_iastN 31 (_) dX5_copyFrom_30 rfl rfl (by decide) rfl (show _ < 5 by omega) (by decide) ?_
      refine V_aload_n 32 dX5_copyFrom_31 rfl rfl ?_
      refine V_getR 35 5 2 fl_X5_19 dX5_copyFrom_32 rfl rfl (by decide) (Or.inr ⟨_, rfl⟩) (by decide) (sh_5_2 hSg (by omega)) ?_
      refine V_iload_n 36 dX5_copyFrom_35 rfl rfl ?_
      refine V_aload_n 37 dX5_copyFrom_36 rfl rfl ?_
      refine V_getR 40 5 2 fl_X5_19 dX5_copyFrom_37 rfl rfl (by decide) (Or.inr ⟨_, rfl⟩) (by decide) (sh_5_2 hSg (by omega)) ?_
      refine V_iload_n 41 dX5_copyFrom_40 rfl rfl ?_
      refine V_ialdV 42 (_) dX5_copyFrom_41 rfl rfl (by decide) rfl (show _ < 5 by omega) (by decide) (a2 k).2.2 ?_
      refine V_iastN 43 (_) dX5_copyFrom_42 rfl rfl (by decide) rfl (show _ < 5 by omega) (by decide) ?_
      refine V_iincN 46 dX5_copyFrom_43 rfl rfl (by decide) ?_
      refine V_goto 2 dX5_copyFrom_46 rfl ?_
      exact V_at (ih (k + 1) (by omega)) ⟨rfl, rfl, rfl, trivial⟩
theorem ct_X5_copyFrom {p q : Nat} (hS : SHC h NA NH NI) (hp : p < 48) (hq : q < 48) (hpq : p ≠ q) : qM yX5_copyFrom cX5_copyFrom 3 none 0 0 0 0 [.inr (.inr (some (18, p))), .inr (.inr (some (18, q)))] h (pV fun h' => h' = f_copy h p q) := by
  refine qM.of (plainFor_of_name (by decide)) (Nat.le_of_ble_eq_true rfl) ?_
  refine V_iconst (v := 0) 1 dX5_copyFrom_0 rfl (by decide) ?_
  refine V_istore_n 2 dX5_copyFrom_1 rfl (by decide) ?_
  exact V_at (lp_X5_copy hS hp hq hpq ⟨rfl, rfl⟩ 5 0 (by omega)) ⟨rfl, rfl, rfl, trivial⟩
end CP
