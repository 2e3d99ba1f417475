/-! The class: its small methods, reads, prices, terms -/
section CQ
variable {h : qH} {NA NH NI : Nat}
theorem ix_of {x : Int32} {n : Nat} (hn : n ≤ 2000) (q : 0 ≤ x ∧ x < nI n) : ∃ b, b < n ∧ x = nI b := by
  rcases pk_ix x (n := n) (by omega) with z | z | z
  · grind
  · grind
  · exact z
theorem ct_X7_isResource (h : qH) (a : Int32) : qM yX7_isResource cX7_isResource 1 ((some .boolean)) 0 0 0 0 [.inl a] h (pI fun x h' => x = (if 0 ≤ a ∧ a < 4 then 1 else 0) ∧ h' = h) := by
  refine qM.of (plainFor_of_name (by decide)) (Nat.le_of_ble_eq_true rfl) ?_
  refine V_iload_n 1 dX7_isResource_0 rfl rfl ?_
  refine V_if_lt 13 4 dX7_isResource_1 rfl rfl (fun c_1 => ?_) (fun c_1 => ?_)
  · skip
    refine V_iconst (v := 0) 14 dX7_isResource_13 rfl (by decide) ?_
    refine V_iret dX7_isResource_14 rfl rfl ⟨_, rfl, ?_⟩ (by first | exact Nat.le_refl _ | decide | omega) (by first | exact Nat.le_refl _ | decide | omega)
    exact ⟨by split <;> first | rfl | grind, rfl⟩
  · skip
    refine V_iload_n 5 dX7_isResource_4 rfl rfl ?_
    refine V_iconst (v := 4) 6 dX7_isResource_5 rfl (by decide) ?_
    refine V_icmp_ge 13 9 dX7_isResource_6 rfl rfl (fun c_6 => ?_) (fun c_6 => ?_)
    · skip
      refine V_iconst (v := 0) 14 dX7_isResource_13 rfl (by decide) ?_
      refine V_iret dX7_isResource_14 rfl rfl ⟨_, rfl, ?_⟩ (by first | exact Nat.le_refl _ | decide | omega) (by first | exact Nat.le_refl _ | decide | omega)
      exact ⟨by split <;> first | rfl | grind, rfl⟩
    · skip
      refine V_iconst (v := 1) 10 dX7_isResource_9 rfl (by decide) ?_
      refine V_goto 14 dX7_isResource_10 rfl ?_
      refine V_iret dX7_isResource_14 rfl rfl ⟨_, rfl, ?_⟩ (by first | exact Nat.le_refl _ | decide | omega) (by first | exact Nat.le_refl _ | decide | omega)
      exact ⟨by split <;> first | rfl | grind, rfl⟩
theorem ct_X7_isPeriod (h : qH) (a : Int32) : qM yX7_isPeriod cX7_isPeriod 1 ((some .boolean)) 0 0 0 0 [.inl a] h (pI fun x h' => x = (if 0 ≤ a ∧ a < 100 then 1 else 0) ∧ h' = h) := by
  refine qM.of (plainFor_of_name (by decide)) (Nat.le_of_ble_eq_true rfl) ?_
  refine V_iload_n 1 dX7_isPeriod_0 rfl rfl ?_
  refine V_if_lt 14 4 dX7_isPeriod_1 rfl rfl (fun c_1 => ?_) (fun c_1 => ?_)
  · skip
    refine V_iconst (v := 0) 15 dX7_isPeriod_14 rfl (by decide) ?_
    refine V_iret dX7_isPeriod_15 rfl rfl ⟨_, rfl, ?_⟩ (by first | exact Nat.le_refl _ | decide | omega) (by first | exact Nat.le_refl _ | decide | omega)
    exact ⟨by split <;> first | rfl | grind, rfl⟩
  · skip
    refine V_iload_n 5 dX7_isPeriod_4 rfl rfl ?_
    refine V_bipush (v := 100) 7 dX7_isPeriod_5 rfl (by decide) ?_
    refine V_icmp_ge 14 10 dX7_isPeriod_7 rfl rfl (fun c_7 => ?_) (fun c_7 => ?_)
    · skip
      refine V_iconst (v := 0) 15 dX7_isPeriod_14 rfl (by decide) ?_
      refine V_iret dX7_isPeriod_15 rfl rfl ⟨_, rfl, ?_⟩ (by first | exact Nat.le_refl _ | decide | omega) (by first | exact Nat.le_refl _ | decide | omega)
      exact ⟨by split <;> first | rfl | grind, rfl⟩
    · skip
      refine V_iconst (v := 1) 11 dX7_isPeriod_10 rfl (by decide) ?_
      refine V_goto 15 dX7_isPeriod_11 rfl ?_
      refine V_iret dX7_isPeriod_15 rfl rfl ⟨_, rfl, ?_⟩ (by first | exact Nat.le_refl _ | decide | omega) (by first | exact Nat.le_refl _ | decide | omega)
      exact ⟨by split <;> first | rfl | grind, rfl⟩
theorem ct_X7_isUnits (h : qH) (a : Int32) : qM yX7_isUnits cX7_isUnits 1 ((some .boolean)) 0 0 0 0 [.inl a] h (pI fun x h' => x = (if 1 ≤ a ∧ a ≤ 1000000 then 1 else 0) ∧ h' = h) := by
  refine qM.of (plainFor_of_name (by decide)) (Nat.le_of_ble_eq_true rfl) ?_
  refine V_iload_n 1 dX7_isUnits_0 rfl rfl ?_
  refine V_iconst (v := 1) 2 dX7_isUnits_1 rfl (by decide) ?_
  refine V_icmp_lt 15 5 dX7_isUnits_2 rfl rfl (fun c_2 => ?_) (fun c_2 => ?_)
  · skip
    refine V_iconst (v := 0) 16 dX7_isUnits_15 rfl (by decide) ?_
    refine V_iret dX7_isUnits_16 rfl rfl ⟨_, rfl, ?_⟩ (by first | exact Nat.le_refl _ | decide | omega) (by first | exact Nat.le_refl _ | decide | omega)
    exact ⟨by split <;> first | rfl | grind, rfl⟩
  · skip
    refine V_iload_n 6 dX7_isUnits_5 rfl rfl ?_
    refine V_ldc (v := 1000000) 8 dX7_isUnits_6 rfl wc_X7_154 ?_
    refine V_icmp_gt 15 11 dX7_isUnits_8 rfl rfl (fun c_8 => ?_) (fun c_8 => ?_)
    · skip
      refine V_iconst (v := 0) 16 dX7_isUnits_15 rfl (by decide) ?_
      refine V_iret dX7_isUnits_16 rfl rfl ⟨_, rfl, ?_⟩ (by first | exact Nat.le_refl _ | decide | omega) (by first | exact Nat.le_refl _ | decide | omega)
      exact ⟨by split <;> first | rfl | grind, rfl⟩
    · skip
      refine V_iconst (v := 1) 12 dX7_isUnits_11 rfl (by decide) ?_
      refine V_goto 16 dX7_isUnits_12 rfl ?_
      refine V_iret dX7_isUnits_16 rfl rfl ⟨_, rfl, ?_⟩ (by first | exact Nat.le_refl _ | decide | omega) (by first | exact Nat.le_refl _ | decide | omega)
      exact ⟨by split <;> first | rfl | grind, rfl⟩
theorem ct_X7_isRate (h : qH) (a : Int32) : qM yX7_isRate cX7_isRate 1 ((some .boolean)) 0 0 0 0 [.inl a] h (pI fun x h' => x = (if 0 ≤ a ∧ a ≤ 10000 then 1 else 0) ∧ h' = h) := by
  refine qM.of (plainFor_of_name (by decide)) (Nat.le_of_ble_eq_true rfl) ?_
  refine V_iload_n 1 dX7_isRate_0 rfl rfl ?_
  refine V_if_lt 15 4 dX7_isRate_1 rfl rfl (fun c_1 => ?_) (fun c_1 => ?_)
  · skip
    refine V_iconst (v := 0) 16 dX7_isRate_15 rfl (by decide) ?_
    refine V_iret dX7_isRate_16 rfl rfl ⟨_, rfl, ?_⟩ (by first | exact Nat.le_refl _ | decide | omega) (by first | exact Nat.le_refl _ | decide | omega)
    exact ⟨by split <;> first | rfl | grind, rfl⟩
  · skip
    refine V_iload_n 5 dX7_isRate_4 rfl rfl ?_
    refine V_sipush (v := 10000) 8 dX7_isRate_5 rfl (by decide) ?_
    refine V_icmp_gt 15 11 dX7_isRate_8 rfl rfl (fun c_8 => ?_) (fun c_8 => ?_)
    · skip
      refine V_iconst (v := 0) 16 dX7_isRate_15 rfl (by decide) ?_
      refine V_iret dX7_isRate_16 rfl rfl ⟨_, rfl, ?_⟩ (by first | exact Nat.le_refl _ | decide | omega) (by first | exact Nat.le_refl _ | decide | omega)
      exact ⟨by split <;> first | rfl | grind, rfl⟩
    · skip
      refine V_iconst (v := 1) 12 dX7_isRate_11 rfl (by decide) ?_
      refine V_goto 16 dX7_isRate_12 rfl ?_
      refine V_iret dX7_isRate_16 rfl rfl ⟨_, rfl, ?_⟩ (by first | exact Nat.le_refl _ | decide | omega) (by first | exact Nat.le_refl _ | decide | omega)
      exact ⟨by split <;> first | rfl | grind, rfl⟩
theorem cr_ok {r : Nat} (hr : r < 4) : qM yX7_isResource cX7_isResource 1 ((some .boolean)) 0 0 0 0 [.inl (nI r)] h (pI fun x h' => x = 1 ∧ h' = h) := by
  refine (ct_X7_isResource h (nI r)).weak ?_
  rintro v h' ⟨x, rfl, rfl, rfl⟩
  exact ⟨_, rfl, if_pos ⟨nI_pos' (by omega), nI_lt (b := 4) hr (by omega)⟩, rfl⟩
theorem cp_ok {r : Nat} (hr : r < 100) : qM yX7_isPeriod cX7_isPeriod 1 ((some .boolean)) 0 0 0 0 [.inl (nI r)] h (pI fun x h' => x = 1 ∧ h' = h) := by
  refine (ct_X7_isPeriod h (nI r)).weak ?_
  rintro v h' ⟨x, rfl, rfl, rfl⟩
  exact ⟨_, rfl, if_pos ⟨nI_pos' (by omega), nI_lt (b := 100) hr (by omega)⟩, rfl⟩
theorem cu_ok {u : Int32} (hu : 1 ≤ u ∧ u ≤ 1000000) : qM yX7_isUnits cX7_isUnits 1 ((some .boolean)) 0 0 0 0 [.inl u] h (pI fun x h' => x = 1 ∧ h' = h) := by
  refine (ct_X7_isUnits h u).weak ?_
  rintro v h' ⟨x, rfl, rfl, rfl⟩
  exact ⟨_, rfl, if_pos hu, rfl⟩
theorem ten_ok {t : Nat} (hS : SHC h NA NH NI) (ht : t < 6) : qM yX7_tenantAt cX7_tenantAt 2 ((some (.object "QuotaMeter$Tenant"))) 0 0 0 0 [.inr (.inr (some (1, 0))), .inl (nI t)] h (pR fun x h' => x = some (10, t) ∧ h' = h) := by
  refine qM.of (plainFor_of_name (by decide)) (Nat.le_of_ble_eq_true rfl) ?_
  refine V_iload_n 1 dX7_tenantAt_0 rfl rfl ?_
  refine V_if_lt 19 4 dX7_tenantAt_1 rfl rfl (fun c_1 => ?_) (fun c_1 => ?_)
  · skip
    exact absurd c_1 (nI_pos (by omega))
  · skip
    refine V_iload_n 5 dX7_tenantAt_4 rfl rfl ?_
    refine V_bipush (v := 6) 7 dX7_tenantAt_5 rfl (by decide) ?_
    refine V_icmp_ge 19 10 dX7_tenantAt_7 rfl rfl (fun c_7 => ?_) (fun c_7 => ?_)
    · skip
      exact absurd c_7 (nI_ge (b := 6) ht (by omega))
    · skip
      refine V_aload_n 11 dX7_tenantAt_10 rfl rfl ?_
      refine V_getR 14 7 0 fl_X7_11 dX7_tenantAt_11 rfl rfl (by decide) (Or.inr ⟨_, rfl⟩) (by decide) (sh_7_0 hS) ?_
      refine V_iload_n 15 dX7_tenantAt_14 rfl rfl ?_
      refine V_aaldR 16 (_) dX7_tenantAt_15 rfl rfl (Or.inl ⟨_, rfl⟩) (by decide) rfl (show _ < 6 by omega) (by decide) (sa_2 hS (by omega)) ?_
      refine V_goto 20 dX7_tenantAt_16 rfl ?_
      refine V_aret dX7_tenantAt_20 rfl ⟨_, rfl, ?_⟩ (by first | exact Nat.le_refl _ | decide | omega) (by first | exact Nat.le_refl _ | decide | omega)
      exact ⟨rfl, rfl⟩
theorem ten_no {t : Int32} (ht : ¬ (0 ≤ t ∧ t < 6)) : qM yX7_tenantAt cX7_tenantAt 2 ((some (.object "QuotaMeter$Tenant"))) 0 0 0 0 [.inr (.inr (some (1, 0))), .inl t] h (pR fun x h' => x = none ∧ h' = h) := by
  refine qM.of (plainFor_of_name (by decide)) (Nat.le_of_ble_eq_true rfl) ?_
  refine V_iload_n 1 dX7_tenantAt_0 rfl rfl ?_
  refine V_if_lt 19 4 dX7_tenantAt_1 rfl rfl (fun c_1 => ?_) (fun c_1 => ?_)
  · skip
    refine V_null 20 dX7_tenantAt_19 rfl ?_
    refine V_aret dX7_tenantAt_20 rfl ⟨_, rfl, ?_⟩ (by first | exact Nat.le_refl _ | decide | omega) (by first | exact Nat.le_refl _ | decide | omega)
    exact ⟨rfl, rfl⟩
  · skip
    refine V_iload_n 5 dX7_tenantAt_4 rfl rfl ?_
    refine V_bipush (v := 6) 7 dX7_tenantAt_5 rfl (by decide) ?_
    refine V_icmp_ge 19 10 dX7_tenantAt_7 rfl rfl (fun c_7 => ?_) (fun c_7 => ?_)
    · skip
      refine V_null 20 dX7_tenantAt_19 rfl ?_
      refine V_aret dX7_tenantAt_20 rfl ⟨_, rfl, ?_⟩ (by first | exact Nat.le_refl _ | decide | omega) (by first | exact Nat.le_refl _ | decide | omega)
      exact ⟨rfl, rfl⟩
    · skip
      grind
theorem acc_ok {a : Nat} (hS : SHC h NA NH NI) (e : qg_i h 1 0 6 = nI NA) (hNA : NA ≤ 24) (ha : a < NA) : qM yX7_accountAt cX7_accountAt 2 ((some (.object "QuotaMeter$Account"))) 0 0 0 0 [.inr (.inr (some (1, 0))), .inl (nI a)] h (pR fun x h' => x = some (22, a) ∧ h' = h) := by
  refine qM.of (plainFor_of_name (by decide)) (Nat.le_of_ble_eq_true rfl) ?_
  refine V_iload_n 1 dX7_accountAt_0 rfl rfl ?_
  refine V_if_lt 21 4 dX7_accountAt_1 rfl rfl (fun c_1 => ?_) (fun c_1 => ?_)
  · skip
    exact absurd c_1 (nI_pos (by omega))
  · skip
    refine V_iload_n 5 dX7_accountAt_4 rfl rfl ?_
    refine V_aload_n 6 dX7_accountAt_5 rfl rfl ?_
    refine V_getiV 9 7 6 fl_X7_59 dX7_accountAt_6 rfl rfl (by decide) rfl (by decide) e ?_
    refine V_icmp_ge 21 12 dX7_accountAt_9 rfl rfl (fun c_9 => ?_) (fun c_9 => ?_)
    · skip
      exact absurd c_9 (nI_ge ha (by omega))
    · skip
      refine V_aload_n 13 dX7_accountAt_12 rfl rfl ?_
      refine V_getR 16 7 1 fl_X7_17 dX7_accountAt_13 rfl rfl (by decide) (Or.inr ⟨_, rfl⟩) (by decide) (sh_7_1 hS) ?_
      refine V_iload_n 17 dX7_accountAt_16 rfl rfl ?_
      refine V_aaldR 18 (_) dX7_accountAt_17 rfl rfl (Or.inl ⟨_, rfl⟩) (by decide) rfl (show _ < 24 by omega) (by decide) (sa_3 hS (by omega)) ?_
      refine V_goto 22 dX7_accountAt_18 rfl ?_
      refine V_aret dX7_accountAt_22 rfl ⟨_, rfl, ?_⟩ (by first | exact Nat.le_refl _ | decide | omega) (by first | exact Nat.le_refl _ | decide | omega)
      exact ⟨rfl, rfl⟩
theorem acc_no {a : Int32} (e : qg_i h 1 0 6 = nI NA) (ha : a < 0 ∨ nI NA ≤ a) : qM yX7_accountAt cX7_accountAt 2 ((some (.object "QuotaMeter$Account"))) 0 0 0 0 [.inr (.inr (some (1, 0))), .inl a] h (pR fun x h' => x = none ∧ h' = h) := by
  refine qM.of (plainFor_of_name (by decide)) (Nat.le_of_ble_eq_true rfl) ?_
  refine V_iload_n 1 dX7_accountAt_0 rfl rfl ?_
  refine V_if_lt 21 4 dX7_accountAt_1 rfl rfl (fun c_1 => ?_) (fun c_1 => ?_)
  · skip
    refine V_null 22 dX7_accountAt_21 rfl ?_
    refine V_aret dX7_accountAt_22 rfl ⟨_, rfl, ?_⟩ (by first | exact Nat.le_refl _ | decide | omega) (by first | exact Nat.le_refl _ | decide | omega)
    exact ⟨rfl, rfl⟩
  · skip
    refine V_iload_n 5 dX7_accountAt_4 rfl rfl ?_
    refine V_aload_n 6 dX7_accountAt_5 rfl rfl ?_
    refine V_getiV 9 7 6 fl_X7_59 dX7_accountAt_6 rfl rfl (by decide) rfl (by decide) e ?_
    refine V_icmp_ge 21 12 dX7_accountAt_9 rfl rfl (fun c_9 => ?_) (fun c_9 => ?_)
    · skip
      refine V_null 22 dX7_accountAt_21 rfl ?_
      refine V_aret dX7_accountAt_22 rfl ⟨_, rfl, ?_⟩ (by first | exact Nat.le_refl _ | decide | omega) (by first | exact Nat.le_refl _ | decide | omega)
      exact ⟨rfl, rfl⟩
    · skip
      grind
theorem hol_ok {a : Nat} (hS : SHC h NA NH NI) (e : qg_i h 1 0 7 = nI NH) (hNH : NH ≤ 200) (ha : a < NH) : qM yX7_holdAt cX7_holdAt 2 ((some (.object "QuotaMeter$Hold"))) 0 0 0 0 [.inr (.inr (some (1, 0))), .inl (nI a)] h (pR fun x h' => x = some (27, a) ∧ h' = h) := by
  refine qM.of (plainFor_of_name (by decide)) (Nat.le_of_ble_eq_true rfl) ?_
  refine V_iload_n 1 dX7_holdAt_0 rfl rfl ?_
  refine V_if_lt 21 4 dX7_holdAt_1 rfl rfl (fun c_1 => ?_) (fun c_1 => ?_)
  · skip
    exact absurd c_1 (nI_pos (by omega))
  · skip
    refine V_iload_n 5 dX7_holdAt_4 rfl rfl ?_
    refine V_aload_n 6 dX7_holdAt_5 rfl rfl ?_
    refine V_getiV 9 7 7 fl_X7_102 dX7_holdAt_6 rfl rfl (by decide) rfl (by decide) e ?_
    refine V_icmp_ge 21 12 dX7_holdAt_9 rfl rfl (fun c_9 => ?_) (fun c_9 => ?_)
    · skip
      exact absurd c_9 (nI_ge ha (by omega))
    · skip
      refine V_aload_n 13 dX7_holdAt_12 rfl rfl ?_
      refine V_getR 16 7 2 fl_X7_23 dX7_holdAt_13 rfl rfl (by decide) (Or.inr ⟨_, rfl⟩) (by decide) (sh_7_2 hS) ?_
      refine V_iload_n 17 dX7_holdAt_16 rfl rfl ?_
      refine V_aaldR 18 (_) dX7_holdAt_17 rfl rfl (Or.inl ⟨_, rfl⟩) (by decide) rfl (show _ < 200 by omega) (by decide) (sa_4 hS (by omega)) ?_
      refine V_goto 22 dX7_holdAt_18 rfl ?_
      refine V_aret dX7_holdAt_22 rfl ⟨_, rfl, ?_⟩ (by first | exact Nat.le_refl _ | decide | omega) (by first | exact Nat.le_refl _ | decide | omega)
      exact ⟨rfl, rfl⟩
theorem hol_no {a : Int32} (e : qg_i h 1 0 7 = nI NH) (ha : a < 0 ∨ nI NH ≤ a) : qM yX7_holdAt cX7_holdAt 2 ((some (.object "QuotaMeter$Hold"))) 0 0 0 0 [.inr (.inr (some (1, 0))), .inl a] h (pR fun x h' => x = none ∧ h' = h) := by
  refine qM.of (plainFor_of_name (by decide)) (Nat.le_of_ble_eq_true rfl) ?_
  refine V_iload_n 1 dX7_holdAt_0 rfl rfl ?_
  refine V_if_lt 21 4 dX7_holdAt_1 rfl rfl (fun c_1 => ?_) (fun c_1 => ?_)
  · skip
    refine V_null 22 dX7_holdAt_21 rfl ?_
    refine V_aret dX7_holdAt_22 rfl ⟨_, rfl, ?_⟩ (by first | exact Nat.le_refl _ | decide | omega) (by first | exact Nat.le_refl _ | decide | omega)
    exact ⟨rfl, rfl⟩
  · skip
    refine V_iload_n 5 dX7_holdAt_4 rfl rfl ?_
    refine V_aload_n 6 dX7_holdAt_5 rfl rfl ?_
    refine V_getiV 9 7 7 fl_X7_102 dX7_holdAt_6 rfl rfl (by decide) rfl (by decide) e ?_
    refine V_icmp_ge 21 12 dX7_holdAt_9 rfl rfl (fun c_9 => ?_) (fun c_9 => ?_)
    · skip
      refine V_null 22 dX7_holdAt_21 rfl ?_
      refine V_aret dX7_holdAt_22 rfl ⟨_, rfl, ?_⟩ (by first | exact Nat.le_refl _ | decide | omega) (by first | exact Nat.le_refl _ | decide | omega)
      exact ⟨rfl, rfl⟩
    · skip
      grind
theorem opn_ok {a : Nat} (hS : SHC h NA NH NI) (e : qg_i h 1 0 7 = nI NH) (hNH : NH ≤ 200) (ha : a < NH) (ho : ¬ qg_i h 27 a 4 = 0) : qM yX7_openHoldAt cX7_openHoldAt 3 ((some (.object "QuotaMeter$Hold"))) 1 21 0 0 [.inr (.inr (some (1, 0))), .inl (nI a)] h (pR fun x h' => x = some (27, a) ∧ h' = h) := by
  refine qM.of (plainFor_of_name (by decide)) (Nat.le_of_ble_eq_true rfl) ?_
  refine V_aload_n 1 dX7_openHoldAt_0 rfl rfl ?_
  refine V_iload_n 2 dX7_openHoldAt_1 rfl rfl ?_
  refine V_cV1r 5 (hol_ok hS e hNH ha) cs_X7_233 rfl rfl (by decide) dX7_openHoldAt_2 rfl ⟨Nat.le_of_ble_eq_true rfl, Nat.le_of_ble_eq_true rfl⟩ (Nat.le_of_ble_eq_true rfl) ⟨Nat.le_of_ble_eq_true rfl, Nat.le_of_ble_eq_true rfl⟩ (fun x h' hx hle => ?_)
  obtain ⟨rfl, rfl⟩ := hx
  refine V_astore_n 6 dX7_openHoldAt_5 rfl (by decide) ?_
  refine V_aload_n 7 dX7_openHoldAt_6 rfl rfl ?_
  refine V_ifnull 21 10 dX7_openHoldAt_7 rfl rfl (fun c_7 => ?_) (fun a_7 c_7 => ?_)
  · skip
    cases c_7
  · skip
    cases c_7
    refine V_aload_n 11 dX7_openHoldAt_10 rfl rfl ?_
    refine V_getz 14 2 4 fl_X7_239 dX7_openHoldAt_11 rfl rfl (by decide) rfl (by decide) ?_
    refine V_if_eq 21 17 dX7_openHoldAt_14 rfl rfl (fun c_14 => ?_) (fun c_14 => ?_)
    · skip
      exact absurd c_14 ho
    · skip
      refine V_aload_n 18 dX7_openHoldAt_17 rfl rfl ?_
      refine V_goto 22 dX7_openHoldAt_18 rfl ?_
      refine V_aret dX7_openHoldAt_22 rfl ⟨_, rfl, ?_⟩ (by first | exact Nat.le_refl _ | decide | omega) (by first | exact Nat.le_refl _ | decide | omega)
      exact ⟨rfl, rfl⟩
theorem opn_shut {a : Nat} (hS : SHC h NA NH NI) (e : qg_i h 1 0 7 = nI NH) (hNH : NH ≤ 200) (ha : a < NH) (ho : qg_i h 27 a 4 = 0) : qM yX7_openHoldAt cX7_openHoldAt 3 ((some (.object "QuotaMeter$Hold"))) 1 21 0 0 [.inr (.inr (some (1, 0))), .inl (nI a)] h (pR fun x h' => x = none ∧ h' = h) := by
  refine qM.of (plainFor_of_name (by decide)) (Nat.le_of_ble_eq_true rfl) ?_
  refine V_aload_n 1 dX7_openHoldAt_0 rfl rfl ?_
  refine V_iload_n 2 dX7_openHoldAt_1 rfl rfl ?_
  refine V_cV1r 5 (hol_ok hS e hNH ha) cs_X7_233 rfl rfl (by decide) dX7_openHoldAt_2 rfl ⟨Nat.le_of_ble_eq_true rfl, Nat.le_of_ble_eq_true rfl⟩ (Nat.le_of_ble_eq_true rfl) ⟨Nat.le_of_ble_eq_true rfl, Nat.le_of_ble_eq_true rfl⟩ (fun x h' hx hle => ?_)
  obtain ⟨rfl, rfl⟩ := hx
  refine V_astore_n 6 dX7_openHoldAt_5 rfl (by decide) ?_
  refine V_aload_n 7 dX7_openHoldAt_6 rfl rfl ?_
  refine V_ifnull 21 10 dX7_openHoldAt_7 rfl rfl (fun c_7 => ?_) (fun a_7 c_7 => ?_)
  · skip
    cases c_7
  · skip
    cases c_7
    refine V_aload_n 11 dX7_openHoldAt_10 rfl rfl ?_
    refine V_getz 14 2 4 fl_X7_239 dX7_openHoldAt_11 rfl rfl (by decide) rfl (by decide) ?_
    refine V_if_eq 21 17 dX7_openHoldAt_14 rfl rfl (fun c_14 => ?_) (fun c_14 => ?_)
    · skip
      refine V_null 22 dX7_openHoldAt_21 rfl ?_
      refine V_aret dX7_openHoldAt_22 rfl ⟨_, rfl, ?_⟩ (by first | exact Nat.le_refl _ | decide | omega) (by first | exact Nat.le_refl _ | decide | omega)
      exact ⟨rfl, rfl⟩
    · skip
      exact absurd ho c_14
theorem opn_no {a : Int32} (e : qg_i h 1 0 7 = nI NH) (ha : a < 0 ∨ nI NH ≤ a) : qM yX7_openHoldAt cX7_openHoldAt 3 ((some (.object "QuotaMeter$Hold"))) 1 21 0 0 [.inr (.inr (some (1, 0))), .inl a] h (pR fun x h' => x = none ∧ h' = h) := by
  refine qM.of (plainFor_of_name (by decide)) (Nat.le_of_ble_eq_true rfl) ?_
  refine V_aload_n 1 dX7_openHoldAt_0 rfl rfl ?_
  refine V_iload_n 2 dX7_openHoldAt_1 rfl rfl ?_
  refine V_cV1r 5 (hol_no e ha) cs_X7_233 rfl rfl (by decide) dX7_openHoldAt_2 rfl ⟨Nat.le_of_ble_eq_true rfl, Nat.le_of_ble_eq_true rfl⟩ (Nat.le_of_ble_eq_true rfl) ⟨Nat.le_of_ble_eq_true rfl, Nat.le_of_ble_eq_true rfl⟩ (fun x h' hx hle => ?_)
  obtain ⟨rfl, rfl⟩ := hx
  refine V_astore_n 6 dX7_openHoldAt_5 rfl (by decide) ?_
  refine V_aload_n 7 dX7_openHoldAt_6 rfl rfl ?_
  refine V_ifnull 21 10 dX7_openHoldAt_7 rfl rfl (fun c_7 => ?_) (fun a_7 c_7 => ?_)
  · skip
    refine V_null 22 dX7_openHoldAt_21 rfl ?_
    refine V_aret dX7_openHoldAt_22 rfl ⟨_, rfl, ?_⟩ (by first | exact Nat.le_refl _ | decide | omega) (by first | exact Nat.le_refl _ | decide | omega)
    exact ⟨rfl, rfl⟩
  · skip
    cases c_7
theorem inv_ok {a : Nat} (hS : SHC h NA NH NI) (e : qg_i h 1 0 9 = nI NI) (hNI : NI ≤ 60) (ha : a < NI) : qM yX7_invoiceAt cX7_invoiceAt 2 ((some (.object "QuotaMeter$Invoice"))) 0 0 0 0 [.inr (.inr (some (1, 0))), .inl (nI a)] h (pR fun x h' => x = some (28, a) ∧ h' = h) := by
  refine qM.of (plainFor_of_name (by decide)) (Nat.le_of_ble_eq_true rfl) ?_
  refine V_iload_n 1 dX7_invoiceAt_0 rfl rfl ?_
  refine V_if_lt 21 4 dX7_invoiceAt_1 rfl rfl (fun c_1 => ?_) (fun c_1 => ?_)
  · skip
    exact absurd c_1 (nI_pos (by omega))
  · skip
    refine V_iload_n 5 dX7_invoiceAt_4 rfl rfl ?_
    refine V_aload_n 6 dX7_invoiceAt_5 rfl rfl ?_
    refine V_getiV 9 7 9 fl_X7_204 dX7_invoiceAt_6 rfl rfl (by decide) rfl (by decide) e ?_
    refine V_icmp_ge 21 12 dX7_invoiceAt_9 rfl rfl (fun c_9 => ?_) (fun c_9 => ?_)
    · skip
      exact absurd c_9 (nI_ge ha (by omega))
    · skip
      refine V_aload_n 13 dX7_invoiceAt_12 rfl rfl ?_
      refine V_getR 16 7 3 fl_X7_29 dX7_invoiceAt_13 rfl rfl (by decide) (Or.inr ⟨_, rfl⟩) (by decide) (sh_7_3 hS) ?_
      refine V_iload_n 17 dX7_invoiceAt_16 rfl rfl ?_
      refine V_aaldR 18 (_) dX7_invoiceAt_17 rfl rfl (Or.inl ⟨_, rfl⟩) (by decide) rfl (show _ < 60 by omega) (by decide) (sa_5 hS (by omega)) ?_
      refine V_goto 22 dX7_invoiceAt_18 rfl ?_
      refine V_aret dX7_invoiceAt_22 rfl ⟨_, rfl, ?_⟩ (by first | exact Nat.le_refl _ | decide | omega) (by first | exact Nat.le_refl _ | decide | omega)
      exact ⟨rfl, rfl⟩
theorem inv_no {a : Int32} (e : qg_i h 1 0 9 = nI NI) (ha : a < 0 ∨ nI NI ≤ a) : qM yX7_invoiceAt cX7_invoiceAt 2 ((some (.object "QuotaMeter$Invoice"))) 0 0 0 0 [.inr (.inr (some (1, 0))), .inl a] h (pR fun x h' => x = none ∧ h' = h) := by
  refine qM.of (plainFor_of_name (by decide)) (Nat.le_of_ble_eq_true rfl) ?_
  refine V_iload_n 1 dX7_invoiceAt_0 rfl rfl ?_
  refine V_if_lt 21 4 dX7_invoiceAt_1 rfl rfl (fun c_1 => ?_) (fun c_1 => ?_)
  · skip
    refine V_null 22 dX7_invoiceAt_21 rfl ?_
    refine V_aret dX7_invoiceAt_22 rfl ⟨_, rfl, ?_⟩ (by first | exact Nat.le_refl _ | decide | omega) (by first | exact Nat.le_refl _ | decide | omega)
    exact ⟨rfl, rfl⟩
  · skip
    refine V_iload_n 5 dX7_invoiceAt_4 rfl rfl ?_
    refine V_aload_n 6 dX7_invoiceAt_5 rfl rfl ?_
    refine V_getiV 9 7 9 fl_X7_204 dX7_invoiceAt_6 rfl rfl (by decide) rfl (by decide) e ?_
    refine V_icmp_ge 21 12 dX7_invoiceAt_9 rfl rfl (fun c_9 => ?_) (fun c_9 => ?_)
    · skip
      refine V_null 22 dX7_invoiceAt_21 rfl ?_
      refine V_aret dX7_invoiceAt_22 rfl ⟨_, rfl, ?_⟩ (by first | exact Nat.le_refl _ | decide | omega) (by first | exact Nat.le_refl _ | decide | omega)
      exact ⟨rfl, rfl⟩
    · skip
      grind
theorem pri_ok {t r : Nat} (hS : SHC h NA NH NI) (ht : t < 6) (hr : r < 4) : qM yX7_pricesAt cX7_pricesAt 4 ((some (.object "QuotaMeter$Prices"))) 1 21 0 0 [.inr (.inr (some (1, 0))), .inl (nI t), .inl (nI r)] h (pR fun x h' => x = some (18, 8 * t + 2 * r) ∧ h' = h) := by
  refine qM.of (plainFor_of_name (by decide)) (Nat.le_of_ble_eq_true rfl) ?_
  refine V_aload_n 1 dX7_pricesAt_0 rfl rfl ?_
  refine V_iload_n 2 dX7_pricesAt_1 rfl rfl ?_
  refine V_cV1r 5 (ten_ok hS ht) cs_X7_43 rfl rfl (by decide) dX7_pricesAt_2 rfl ⟨Nat.le_of_ble_eq_true rfl, Nat.le_of_ble_eq_true rfl⟩ (Nat.le_of_ble_eq_true rfl) ⟨Nat.le_of_ble_eq_true rfl, Nat.le_of_ble_eq_true rfl⟩ (fun x h' hx hle => ?_)
  obtain ⟨rfl, rfl⟩ := hx
  refine V_astore_n 6 dX7_pricesAt_5 rfl (by decide) ?_
  refine V_aload_n 7 dX7_pricesAt_6 rfl rfl ?_
  refine V_ifnull 26 10 dX7_pricesAt_7 rfl rfl (fun c_7 => ?_) (fun a_7 c_7 => ?_)
  · skip
    cases c_7
  · skip
    cases c_7
    refine V_iload_n 11 dX7_pricesAt_10 rfl rfl ?_
    refine V_cS1i 14 (cr_ok hr) cs_X7_75 dX7_pricesAt_11 rfl ⟨Nat.le_of_ble_eq_true rfl, Nat.le_of_ble_eq_true rfl⟩ (Nat.le_of_ble_eq_true rfl) ⟨Nat.le_of_ble_eq_true rfl, Nat.le_of_ble_eq_true rfl⟩ (fun x h' hx hle => ?_)
    obtain ⟨rfl, rfl⟩ := hx
    refine V_if_eq 26 17 dX7_pricesAt_14 rfl rfl (fun c_14 => ?_) (fun c_14 => ?_)
    · skip
      exact absurd c_14 (by decide)
    · skip
      refine V_aload_n 18 dX7_pricesAt_17 rfl rfl ?_
      refine V_getR 21 6 1 fl_X7_281 dX7_pricesAt_18 rfl rfl (by decide) (Or.inr ⟨_, rfl⟩) (by decide) (sh_6_1 hS (by omega)) ?_
      refine V_iload_n 22 dX7_pricesAt_21 rfl rfl ?_
      refine V_aaldR 23 (_) dX7_pricesAt_22 rfl rfl (Or.inl ⟨_, rfl⟩) (by decide) rfl (show _ < 4 by omega) (by decide) (sa_11 hS (by omega) (by omega)) ?_
      refine V_goto 27 dX7_pricesAt_23 rfl ?_
      refine V_aret dX7_pricesAt_27 rfl ⟨_, rfl, ?_⟩ (by first | exact Nat.le_refl _ | decide | omega) (by first | exact Nat.le_refl _ | decide | omega)
      exact ⟨rfl, rfl⟩
theorem pri_no {t r : Int32} (hS : SHC h NA NH NI) (hb : ¬ ((0 ≤ t ∧ t < 6) ∧ (0 ≤ r ∧ r < 4))) : qM yX7_pricesAt cX7_pricesAt 4 ((some (.object "QuotaMeter$Prices"))) 1 21 0 0 [.inr (.inr (some (1, 0))), .inl t, .inl r] h (pR fun x h' => x = none ∧ h' = h) := by
  by_cases ht : 0 ≤ t ∧ t < 6
  · obtain ⟨t', ht', rfl⟩ : ∃ b, b < 6 ∧ t = nI b := ix_of (n := 6) (by decide) ht
    refine qM.of (plainFor_of_name (by decide)) (Nat.le_of_ble_eq_true rfl) ?_
    refine V_aload_n 1 dX7_pricesAt_0 rfl rfl ?_
    refine V_iload_n 2 dX7_pricesAt_1 rfl rfl ?_
    refine V_cV1r 5 (ten_ok hS ht') cs_X7_43 rfl rfl (by decide) dX7_pricesAt_2 rfl ⟨Nat.le_of_ble_eq_true rfl, Nat.le_of_ble_eq_true rfl⟩ (Nat.le_of_ble_eq_true rfl) ⟨Nat.le_of_ble_eq_true rfl, Nat.le_of_ble_eq_true rfl⟩ (fun x h' hx hle => ?_)
    obtain ⟨rfl, rfl⟩ := hx
    refine V_astore_n 6 dX7_pricesAt_5 rfl (by decide) ?_
    refine V_aload_n 7 dX7_pricesAt_6 rfl rfl ?_
    refine V_ifnull 26 10 dX7_pricesAt_7 rfl rfl (fun c_7 => ?_) (fun a_7 c_7 => ?_)
    · skip
      cases c_7
    · skip
      cases c_7
      refine V_iload_n 11 dX7_pricesAt_10 rfl rfl ?_
      refine V_cS1i 14 (ct_X7_isResource _ _) cs_X7_75 dX7_pricesAt_11 rfl ⟨Nat.le_of_ble_eq_true rfl, Nat.le_of_ble_eq_true rfl⟩ (Nat.le_of_ble_eq_true rfl) ⟨Nat.le_of_ble_eq_true rfl, Nat.le_of_ble_eq_true rfl⟩ (fun x h' hx hle => ?_)
      obtain ⟨rfl, rfl⟩ := hx
      refine V_if_eq 26 17 dX7_pricesAt_14 rfl rfl (fun c_14 => ?_) (fun c_14 => ?_)
      · skip
        refine V_null 27 dX7_pricesAt_26 rfl ?_
        refine V_aret dX7_pricesAt_27 rfl ⟨_, rfl, ?_⟩ (by first | exact Nat.le_refl _ | decide | omega) (by first | exact Nat.le_refl _ | decide | omega)
        exact ⟨rfl, rfl⟩
      · skip
        grind
  · refine qM.of (plainFor_of_name (by decide)) (Nat.le_of_ble_eq_true rfl) ?_
    refine V_aload_n 1 dX7_pricesAt_0 rfl rfl ?_
    refine V_iload_n 2 dX7_pricesAt_1 rfl rfl ?_
    refine V_cV1r 5 (ten_no ht) cs_X7_43 rfl rfl (by decide) dX7_pricesAt_2 rfl ⟨Nat.le_of_ble_eq_true rfl, Nat.le_of_ble_eq_true rfl⟩ (Nat.le_of_ble_eq_true rfl) ⟨Nat.le_of_ble_eq_true rfl, Nat.le_of_ble_eq_true rfl⟩ (fun x h' hx hle => ?_)
    obtain ⟨rfl, rfl⟩ := hx
    refine V_astore_n 6 dX7_pricesAt_5 rfl (by decide) ?_
    refine V_aload_n 7 dX7_pricesAt_6 rfl rfl ?_
    refine V_ifnull 26 10 dX7_pricesAt_7 rfl rfl (fun c_7 => ?_) (fun a_7 c_7 => ?_)
    · skip
      refine V_null 27 dX7_pricesAt_26 rfl ?_
      refine V_aret dX7_pricesAt_27 rfl ⟨_, rfl, ?_⟩ (by first | exact Nat.le_refl _ | decide | omega) (by first | exact Nat.le_refl _ | decide | omega)
      exact ⟨rfl, rfl⟩
    · skip
      cases c_7
theorem ix_c {x : Int32} {n : Nat} (hn : n ≤ 2000) : (x < 0 ∨ nI n ≤ x) ∨ ∃ j : Nat, j < n ∧ x = nI j := by
  rcases pk_ix x (n := n) (by omega) with z | z | z
  · exact Or.inl (Or.inl z)
  · exact Or.inl (Or.inr z)
  · exact Or.inr z
theorem ct_X7_used_ok {a r p : Nat} (hS : SHC h NA NH NI) (e : qg_i h 1 0 6 = nI NA) (hNA : NA ≤ 24) (ha : a < NA) (hr : r < 4) (hp : p < 100) : qM yX7_used cX7_used 5 ((some .long)) 1 21 0 0 [.inr (.inr (some (1, 0))), .inl (nI a), .inl (nI r), .inl (nI p)] h (pL fun x h' => x = qg_l h 24 (4 * a + r) p ∧ h' = h) := by
  refine qM.of (plainFor_of_name (by decide)) (Nat.le_of_ble_eq_true rfl) ?_
  refine V_aload_n 1 dX7_used_0 rfl rfl ?_
  refine V_iload_n 2 dX7_used_1 rfl rfl ?_
  refine V_cV1r 5 (acc_ok hS e hNA ha) cs_X7_47 rfl rfl (by decide) dX7_used_2 rfl ⟨Nat.le_of_ble_eq_true rfl, Nat.le_of_ble_eq_true rfl⟩ (Nat.le_of_ble_eq_true rfl) ⟨Nat.le_of_ble_eq_true rfl, Nat.le_of_ble_eq_true rfl⟩ (fun x h' hx hle => ?_)
  obtain ⟨rfl, rfl⟩ := hx
  refine V_astore 7 dX7_used_5 rfl (by decide) ?_
  refine V_aload 9 dX7_used_7 rfl rfl ?_
  refine V_ifnull 26 12 dX7_used_9 rfl rfl (fun c_9 => ?_) (fun a_9 c_9 => ?_)
  · skip
    cases c_9
  · skip
    cases c_9
    refine V_iload_n 13 dX7_used_12 rfl rfl ?_
    refine V_cS1i 16 (cr_ok hr) cs_X7_75 dX7_used_13 rfl ⟨Nat.le_of_ble_eq_true rfl, Nat.le_of_ble_eq_true rfl⟩ (Nat.le_of_ble_eq_true rfl) ⟨Nat.le_of_ble_eq_true rfl, Nat.le_of_ble_eq_true rfl⟩ (fun x h' hx hle => ?_)
    obtain ⟨rfl, rfl⟩ := hx
    refine V_if_eq 26 19 dX7_used_16 rfl rfl (fun c_16 => ?_) (fun c_16 => ?_)
    · skip
      exact absurd c_16 (by decide)
    · skip
      refine V_iload_n 20 dX7_used_19 rfl rfl ?_
      refine V_cS1i 23 (cp_ok hp) cs_X7_188 dX7_used_20 rfl ⟨Nat.le_of_ble_eq_true rfl, Nat.le_of_ble_eq_true rfl⟩ (Nat.le_of_ble_eq_true rfl) ⟨Nat.le_of_ble_eq_true rfl, Nat.le_of_ble_eq_true rfl⟩ (fun x h' hx hle => ?_)
      obtain ⟨rfl, rfl⟩ := hx
      refine V_if_ne 30 26 dX7_used_23 rfl rfl (fun c_23 => ?_) (fun c_23 => ?_)
      · skip
        refine V_aload 32 dX7_used_30 rfl rfl ?_
        refine V_getR 35 0 3 fl_X7_226 dX7_used_32 rfl rfl (by decide) (Or.inr ⟨_, rfl⟩) (by decide) (sh_0_3 hS (by omega)) ?_
        refine V_iload_n 36 dX7_used_35 rfl rfl ?_
        refine V_aaldR 37 (_) dX7_used_36 rfl rfl (Or.inr ⟨_, rfl⟩) (by decide) rfl (show _ < 4 by omega) (by decide) (sa_23 hS (by omega) (by omega)) ?_
        refine V_iload_n 38 dX7_used_37 rfl rfl ?_
        refine V_laldN 39 (_) dX7_used_38 rfl rfl (by decide) rfl (show _ < 100 by omega) (by decide) ?_
        refine V_lret dX7_used_39 rfl ⟨_, rfl, ?_⟩ (by first | exact Nat.le_refl _ | decide | omega) (by first | exact Nat.le_refl _ | decide | omega)
        exact ⟨rfl, rfl⟩
      · skip
        exact absurd c_23 (by decide)
theorem ct_X7_used_bad {a r p : Int32} (hS : SHC h NA NH NI) (e : qg_i h 1 0 6 = nI NA) (hNA : NA ≤ 24) (hbad : ¬ ((0 ≤ a ∧ a < nI NA) ∧ (0 ≤ r ∧ r < 4) ∧ (0 ≤ p ∧ p < 100))) : qM yX7_used cX7_used 5 ((some .long)) 1 21 0 0 [.inr (.inr (some (1, 0))), .inl a, .inl r, .inl p] h (pL fun x h' => x = -2 ∧ h' = h) := by
  rcases ix_c (x := a) (n := NA) (by omega) with z | ⟨b, hb, rfl⟩
  · refine qM.of (plainFor_of_name (by decide)) (Nat.le_of_ble_eq_true rfl) ?_
    refine V_aload_n 1 dX7_used_0 rfl rfl ?_
    refine V_iload_n 2 dX7_used_1 rfl rfl ?_
    refine V_cV1r 5 (acc_no e z) cs_X7_47 rfl rfl (by decide) dX7_used_2 rfl ⟨Nat.le_of_ble_eq_true rfl, Nat.le_of_ble_eq_true rfl⟩ (Nat.le_of_ble_eq_true rfl) ⟨Nat.le_of_ble_eq_true rfl, Nat.le_of_ble_eq_true rfl⟩ (fun x h' hx hle => ?_)
    obtain ⟨rfl, rfl⟩ := hx
    refine V_astore 7 dX7_used_5 rfl (by decide) ?_
    refine V_aload 9 dX7_used_7 rfl rfl ?_
    refine V_ifnull 26 12 dX7_used_9 rfl rfl (fun c_9 => ?_) (fun a_9 c_9 => ?_)
    · skip
      refine V_ldc2 (v := -2) 29 dX7_used_26 rfl wc_X7_167 ?_
      refine V_lret dX7_used_29 rfl ⟨_, rfl, ?_⟩ (by first | exact Nat.le_refl _ | decide | omega) (by first | exact Nat.le_refl _ | decide | omega)
      exact ⟨rfl, rfl⟩
    · skip
      cases c_9
  · have hv : 0 ≤ nI b ∧ nI b < nI NA := ⟨nI_pos' (by omega), nI_lt hb (by omega)⟩
    refine qM.of (plainFor_of_name (by decide)) (Nat.le_of_ble_eq_true rfl) ?_
    refine V_aload_n 1 dX7_used_0 rfl rfl ?_
    refine V_iload_n 2 dX7_used_1 rfl rfl ?_
    refine V_cV1r 5 (acc_ok hS e hNA hb) cs_X7_47 rfl rfl (by decide) dX7_used_2 rfl ⟨Nat.le_of_ble_eq_true rfl, Nat.le_of_ble_eq_true rfl⟩ (Nat.le_of_ble_eq_true rfl) ⟨Nat.le_of_ble_eq_true rfl, Nat.le_of_ble_eq_true rfl⟩ (fun x h' hx hle => ?_)
    obtain ⟨rfl, rfl⟩ := hx
    refine V_astore 7 dX7_used_5 rfl (by decide) ?_
    refine V_aload 9 dX7_used_7 rfl rfl ?_
    refine V_ifnull 26 12 dX7_used_9 rfl rfl (fun c_9 => ?_) (fun a_9 c_9 => ?_)
    · skip
      cases c_9
    · skip
      cases c_9
      refine V_iload_n 13 dX7_used_12 rfl rfl ?_
      refine V_cS1i 16 (ct_X7_isResource _ _) cs_X7_75 dX7_used_13 rfl ⟨Nat.le_of_ble_eq_true rfl, Nat.le_of_ble_eq_true rfl⟩ (Nat.le_of_ble_eq_true rfl) ⟨Nat.le_of_ble_eq_true rfl, Nat.le_of_ble_eq_true rfl⟩ (fun x h' hx hle => ?_)
      obtain ⟨rfl, rfl⟩ := hx
      refine V_if_eq 26 19 dX7_used_16 rfl rfl (fun c_16 => ?_) (fun c_16 => ?_)
      · skip
        refine V_ldc2 (v := -2) 29 dX7_used_26 rfl wc_X7_167 ?_
        refine V_lret dX7_used_29 rfl ⟨_, rfl, ?_⟩ (by first | exact Nat.le_refl _ | decide | omega) (by first | exact Nat.le_refl _ | decide | omega)
        exact ⟨rfl, rfl⟩
      · skip
        refine V_iload_n 20 dX7_used_19 rfl rfl ?_
        refine V_cS1i 23 (ct_X7_isPeriod _ _) cs_X7_188 dX7_used_20 rfl ⟨Nat.le_of_ble_eq_true rfl, Nat.le_of_ble_eq_true rfl⟩ (Nat.le_of_ble_eq_true rfl) ⟨Nat.le_of_ble_eq_true rfl, Nat.le_of_ble_eq_true rfl⟩ (fun x h' hx hle => ?_)
        obtain ⟨rfl, rfl⟩ := hx
        refine V_if_ne 30 26 dX7_used_23 rfl rfl (fun c_23 => ?_) (fun c_23 => ?_)
        · skip
          exfalso; grind
        · skip
          refine V_ldc2 (v := -2) 29 dX7_used_26 rfl wc_X7_167 ?_
          refine V_lret dX7_used_29 rfl ⟨_, rfl, ?_⟩ (by first | exact Nat.le_refl _ | decide | omega) (by first | exact Nat.le_refl _ | decide | omega)
          exact ⟨rfl, rfl⟩
theorem ct_X7_held_ok {a r : Nat} (hS : SHC h NA NH NI) (e : qg_i h 1 0 6 = nI NA) (hNA : NA ≤ 24) (ha : a < NA) (hr : r < 4) : qM yX7_held cX7_held 4 ((some .int)) 1 21 0 0 [.inr (.inr (some (1, 0))), .inl (nI a), .inl (nI r)] h (pI fun x h' => x = qg_i h 25 a r ∧ h' = h) := by
  refine qM.of (plainFor_of_name (by decide)) (Nat.le_of_ble_eq_true rfl) ?_
  refine V_aload_n 1 dX7_held_0 rfl rfl ?_
  refine V_iload_n 2 dX7_held_1 rfl rfl ?_
  refine V_cV1r 5 (acc_ok hS e hNA ha) cs_X7_47 rfl rfl (by decide) dX7_held_2 rfl ⟨Nat.le_of_ble_eq_true rfl, Nat.le_of_ble_eq_true rfl⟩ (Nat.le_of_ble_eq_true rfl) ⟨Nat.le_of_ble_eq_true rfl, Nat.le_of_ble_eq_true rfl⟩ (fun x h' hx hle => ?_)
  obtain ⟨rfl, rfl⟩ := hx
  refine V_astore_n 6 dX7_held_5 rfl (by decide) ?_
  refine V_aload_n 7 dX7_held_6 rfl rfl ?_
  refine V_ifnull 17 10 dX7_held_7 rfl rfl (fun c_7 => ?_) (fun a_7 c_7 => ?_)
  · skip
    cases c_7
  · skip
    cases c_7
    refine V_iload_n 11 dX7_held_10 rfl rfl ?_
    refine V_cS1i 14 (cr_ok hr) cs_X7_75 dX7_held_11 rfl ⟨Nat.le_of_ble_eq_true rfl, Nat.le_of_ble_eq_true rfl⟩ (Nat.le_of_ble_eq_true rfl) ⟨Nat.le_of_ble_eq_true rfl, Nat.le_of_ble_eq_true rfl⟩ (fun x h' hx hle => ?_)
    obtain ⟨rfl, rfl⟩ := hx
    refine V_if_ne 20 17 dX7_held_14 rfl rfl (fun c_14 => ?_) (fun c_14 => ?_)
    · skip
      refine V_aload_n 21 dX7_held_20 rfl rfl ?_
      refine V_getR 24 0 4 fl_X7_230 dX7_held_21 rfl rfl (by decide) (Or.inr ⟨_, rfl⟩) (by decide) (sh_0_4 hS (by omega)) ?_
      refine V_iload_n 25 dX7_held_24 rfl rfl ?_
      refine V_ialdN 26 (_) dX7_held_25 rfl rfl (by decide) rfl (show _ < 4 by omega) (by decide) ?_
      refine V_iret dX7_held_26 rfl rfl ⟨_, rfl, ?_⟩ (by first | exact Nat.le_refl _ | decide | omega) (by first | exact Nat.le_refl _ | decide | omega)
      exact ⟨rfl, rfl⟩
    · skip
      exact absurd c_14 (by decide)
theorem ct_X7_held_bad {a r : Int32} (hS : SHC h NA NH NI) (e : qg_i h 1 0 6 = nI NA) (hNA : NA ≤ 24) (hbad : ¬ ((0 ≤ a ∧ a < nI NA) ∧ (0 ≤ r ∧ r < 4))) : qM yX7_held cX7_held 4 ((some .int)) 1 21 0 0 [.inr (.inr (some (1, 0))), .inl a, .inl r] h (pI fun x h' => x = -2 ∧ h' = h) := by
  rcases ix_c (x := a) (n := NA) (by omega) with z | ⟨b, hb, rfl⟩
  · refine qM.of (plainFor_of_name (by decide)) (Nat.le_of_ble_eq_true rfl) ?_
    refine V_aload_n 1 dX7_held_0 rfl rfl ?_
    refine V_iload_n 2 dX7_held_1 rfl rfl ?_
    refine V_cV1r 5 (acc_no e z) cs_X7_47 rfl rfl (by decide) dX7_held_2 rfl ⟨Nat.le_of_ble_eq_true rfl, Nat.le_of_ble_eq_true rfl⟩ (Nat.le_of_ble_eq_true rfl) ⟨Nat.le_of_ble_eq_true rfl, Nat.le_of_ble_eq_true rfl⟩ (fun x h' hx hle => ?_)
    obtain ⟨rfl, rfl⟩ := hx
    refine V_astore_n 6 dX7_held_5 rfl (by decide) ?_
    refine V_aload_n 7 dX7_held_6 rfl rfl ?_
    refine V_ifnull 17 10 dX7_held_7 rfl rfl (fun c_7 => ?_) (fun a_7 c_7 => ?_)
    · skip
      refine V_bipush (v := (-2)) 19 dX7_held_17 rfl (by decide) ?_
      refine V_iret dX7_held_19 rfl rfl ⟨_, rfl, ?_⟩ (by first | exact Nat.le_refl _ | decide | omega) (by first | exact Nat.le_refl _ | decide | omega)
      exact ⟨rfl, rfl⟩
    · skip
      cases c_7
  · have hv : 0 ≤ nI b ∧ nI b < nI NA := ⟨nI_pos' (by omega), nI_lt hb (by omega)⟩
    refine qM.of (plainFor_of_name (by decide)) (Nat.le_of_ble_eq_true rfl) ?_
    refine V_aload_n 1 dX7_held_0 rfl rfl ?_
    refine V_iload_n 2 dX7_held_1 rfl rfl ?_
    refine V_cV1r 5 (acc_ok hS e hNA hb) cs_X7_47 rfl rfl (by decide) dX7_held_2 rfl ⟨Nat.le_of_ble_eq_true rfl, Nat.le_of_ble_eq_true rfl⟩ (Nat.le_of_ble_eq_true rfl) ⟨Nat.le_of_ble_eq_true rfl, Nat.le_of_ble_eq_true rfl⟩ (fun x h' hx hle => ?_)
    obtain ⟨rfl, rfl⟩ := hx
    refine V_astore_n 6 dX7_held_5 rfl (by decide) ?_
    refine V_aload_n 7 dX7_held_6 rfl rfl ?_
    refine V_ifnull 17 10 dX7_held_7 rfl rfl (fun c_7 => ?_) (fun a_7 c_7 => ?_)
    · skip
      cases c_7
    · skip
      cases c_7
      refine V_iload_n 11 dX7_held_10 rfl rfl ?_
      refine V_cS1i 14 (ct_X7_isResource _ _) cs_X7_75 dX7_held_11 rfl ⟨Nat.le_of_ble_eq_true rfl, Nat.le_of_ble_eq_true rfl⟩ (Nat.le_of_ble_eq_true rfl) ⟨Nat.le_of_ble_eq_true rfl, Nat.le_of_ble_eq_true rfl⟩ (fun x h' hx hle => ?_)
      obtain ⟨rfl, rfl⟩ := hx
      refine V_if_ne 20 17 dX7_held_14 rfl rfl (fun c_14 => ?_) (fun c_14 => ?_)
      · skip
        exfalso; grind
      · skip
        refine V_bipush (v := (-2)) 19 dX7_held_17 rfl (by decide) ?_
        refine V_iret dX7_held_19 rfl rfl ⟨_, rfl, ?_⟩ (by first | exact Nat.le_refl _ | decide | omega) (by first | exact Nat.le_refl _ | decide | omega)
        exact ⟨rfl, rfl⟩
theorem ct_X7_room_ok {a r p : Nat} (hS : SHC h NA NH NI) (hO : WO h NA) (e : qg_i h 1 0 6 = nI NA) (hNA : NA ≤ 24) (ha : a < NA) (hr : r < 4) (hp : p < 100) (enow : qg_i h 1 0 5 / 1000 = nI p) : qM yX7_room cX7_room 4 ((some .int)) 2 48 0 0 [.inr (.inr (some (1, 0))), .inl (nI a), .inl (nI r)] h (pI fun x h' => x = (if 0 < f_room h r p a then f_room h r p a else 0).toInt32 ∧ h' = h) := by
  refine qM.of (plainFor_of_name (by decide)) (Nat.le_of_ble_eq_true rfl) ?_
  refine V_aload_n 1 dX7_room_0 rfl rfl ?_
  refine V_iload_n 2 dX7_room_1 rfl rfl ?_
  refine V_cV1r 5 (acc_ok hS e hNA ha) cs_X7_47 rfl rfl (by decide) dX7_room_2 rfl ⟨Nat.le_of_ble_eq_true rfl, Nat.le_of_ble_eq_true rfl⟩ (Nat.le_of_ble_eq_true rfl) ⟨Nat.le_of_ble_eq_true rfl, Nat.le_of_ble_eq_true rfl⟩ (fun x h' hx hle => ?_)
  obtain ⟨rfl, rfl⟩ := hx
  refine V_astore_n 6 dX7_room_5 rfl (by decide) ?_
  refine V_aload_n 7 dX7_room_6 rfl rfl ?_
  refine V_ifnull 17 10 dX7_room_7 rfl rfl (fun c_7 => ?_) (fun a_7 c_7 => ?_)
  · skip
    cases c_7
  · skip
    cases c_7
    refine V_iload_n 11 dX7_room_10 rfl rfl ?_
    refine V_cS1i 14 (cr_ok hr) cs_X7_75 dX7_room_11 rfl ⟨Nat.le_of_ble_eq_true rfl, Nat.le_of_ble_eq_true rfl⟩ (Nat.le_of_ble_eq_true rfl) ⟨Nat.le_of_ble_eq_true rfl, Nat.le_of_ble_eq_true rfl⟩ (fun x h' hx hle => ?_)
    obtain ⟨rfl, rfl⟩ := hx
    refine V_if_ne 20 17 dX7_room_14 rfl rfl (fun c_14 => ?_) (fun c_14 => ?_)
    · skip
      refine V_aload_n 21 dX7_room_20 rfl rfl ?_
      refine V_iload_n 22 dX7_room_21 rfl rfl ?_
      refine V_aload_n 23 dX7_room_22 rfl rfl ?_
      refine V_geti 26 7 5 fl_X7_65 dX7_room_23 rfl rfl (by decide) rfl (by decide) ?_
      refine V_sipush (v := 1000) 29 dX7_room_26 rfl (by decide) ?_
      refine V_idiv 30 dX7_room_29 rfl (by decide) ?_
      rw [enow]
      refine V_cV2i 33 (ct_X0_freeUnits hS hO hNA ha hr hp) cs_X7_105 rfl rfl (by decide) dX7_room_30 rfl ⟨Nat.le_of_ble_eq_true rfl, Nat.le_of_ble_eq_true rfl⟩ (Nat.le_of_ble_eq_true rfl) ⟨Nat.le_of_ble_eq_true rfl, Nat.le_of_ble_eq_true rfl⟩ (fun x h' hx hle => ?_)
      obtain ⟨rfl, rfl⟩ := hx
      refine V_iret dX7_room_33 rfl rfl ⟨_, rfl, ?_⟩ (by first | exact Nat.le_refl _ | decide | omega) (by first | exact Nat.le_refl _ | decide | omega)
      exact ⟨rfl, rfl⟩
    · skip
      exact absurd c_14 (by decide)
theorem ct_X7_room_bad {a r : Int32} (hS : SHC h NA NH NI) (e : qg_i h 1 0 6 = nI NA) (hNA : NA ≤ 24) (hbad : ¬ ((0 ≤ a ∧ a < nI NA) ∧ (0 ≤ r ∧ r < 4))) : qM yX7_room cX7_room 4 ((some .int)) 2 48 0 0 [.inr (.inr (some (1, 0))), .inl a, .inl r] h (pI fun x h' => x = -2 ∧ h' = h) := by
  rcases ix_c (x := a) (n := NA) (by omega) with z | ⟨b, hb, rfl⟩
  · refine qM.of (plainFor_of_name (by decide)) (Nat.le_of_ble_eq_true rfl) ?_
    refine V_aload_n 1 dX7_room_0 rfl rfl ?_
    refine V_iload_n 2 dX7_room_1 rfl rfl ?_
    refine V_cV1r 5 (acc_no e z) cs_X7_47 rfl rfl (by decide) dX7_room_2 rfl ⟨Nat.le_of_ble_eq_true rfl, Nat.le_of_ble_eq_true rfl⟩ (Nat.le_of_ble_eq_true rfl) ⟨Nat.le_of_ble_eq_true rfl, Nat.le_of_ble_eq_true rfl⟩ (fun x h' hx hle => ?_)
    obtain ⟨rfl, rfl⟩ := hx
    refine V_astore_n 6 dX7_room_5 rfl (by decide) ?_
    refine V_aload_n 7 dX7_room_6 rfl rfl ?_
    refine V_ifnull 17 10 dX7_room_7 rfl rfl (fun c_7 => ?_) (fun a_7 c_7 => ?_)
    · skip
      refine V_bipush (v := (-2)) 19 dX7_room_17 rfl (by decide) ?_
      refine V_iret dX7_room_19 rfl rfl ⟨_, rfl, ?_⟩ (by first | exact Nat.le_refl _ | decide | omega) (by first | exact Nat.le_refl _ | decide | omega)
      exact ⟨rfl, rfl⟩
    · skip
      cases c_7
  · have hv : 0 ≤ nI b ∧ nI b < nI NA := ⟨nI_pos' (by omega), nI_lt hb (by omega)⟩
    refine qM.of (plainFor_of_name (by decide)) (Nat.le_of_ble_eq_true rfl) ?_
    refine V_aload_n 1 dX7_room_0 rfl rfl ?_
    refine V_iload_n 2 dX7_room_1 rfl rfl ?_
    refine V_cV1r 5 (acc_ok hS e hNA hb) cs_X7_47 rfl rfl (by decide) dX7_room_2 rfl ⟨Nat.le_of_ble_eq_true rfl, Nat.le_of_ble_eq_true rfl⟩ (Nat.le_of_ble_eq_true rfl) ⟨Nat.le_of_ble_eq_true rfl, Nat.le_of_ble_eq_true rfl⟩ (fun x h' hx hle => ?_)
    obtain ⟨rfl, rfl⟩ := hx
    refine V_astore_n 6 dX7_room_5 rfl (by decide) ?_
    refine V_aload_n 7 dX7_room_6 rfl rfl ?_
    refine V_ifnull 17 10 dX7_room_7 rfl rfl (fun c_7 => ?_) (fun a_7 c_7 => ?_)
    · skip
      cases c_7
    · skip
      cases c_7
      refine V_iload_n 11 dX7_room_10 rfl rfl ?_
      refine V_cS1i 14 (ct_X7_isResource _ _) cs_X7_75 dX7_room_11 rfl ⟨Nat.le_of_ble_eq_true rfl, Nat.le_of_ble_eq_true rfl⟩ (Nat.le_of_ble_eq_true rfl) ⟨Nat.le_of_ble_eq_true rfl, Nat.le_of_ble_eq_true rfl⟩ (fun x h' hx hle => ?_)
      obtain ⟨rfl, rfl⟩ := hx
      refine V_if_ne 20 17 dX7_room_14 rfl rfl (fun c_14 => ?_) (fun c_14 => ?_)
      · skip
        exfalso; grind
      · skip
        refine V_bipush (v := (-2)) 19 dX7_room_17 rfl (by decide) ?_
        refine V_iret dX7_room_19 rfl rfl ⟨_, rfl, ?_⟩ (by first | exact Nat.le_refl _ | decide | omega) (by first | exact Nat.le_refl _ | decide | omega)
        exact ⟨rfl, rfl⟩
theorem ct_X7_limit_ok {a r : Nat} {l : Int32} (hS : SHC h NA NH NI) (e : qg_i h 1 0 6 = nI NA) (hNA : NA ≤ 24) (ha : a < NA) (hr : r < 4) (hl : -1 ≤ l ∧ l ≤ 1000000000) : qM yX7_limit cX7_limit 5 ((some .int)) 1 21 0 0 [.inr (.inr (some (1, 0))), .inl (nI a), .inl (nI r), .inl l] h (pI fun x h' => x = 0 ∧ h' = qs_i h 26 a r l) := by
  refine qM.of (plainFor_of_name (by decide)) (Nat.le_of_ble_eq_true rfl) ?_
  refine V_aload_n 1 dX7_limit_0 rfl rfl ?_
  refine V_iload_n 2 dX7_limit_1 rfl rfl ?_
  refine V_cV1r 5 (acc_ok hS e hNA ha) cs_X7_47 rfl rfl (by decide) dX7_limit_2 rfl ⟨Nat.le_of_ble_eq_true rfl, Nat.le_of_ble_eq_true rfl⟩ (Nat.le_of_ble_eq_true rfl) ⟨Nat.le_of_ble_eq_true rfl, Nat.le_of_ble_eq_true rfl⟩ (fun x h' hx hle => ?_)
  obtain ⟨rfl, rfl⟩ := hx
  refine V_astore 7 dX7_limit_5 rfl (by decide) ?_
  refine V_aload 9 dX7_limit_7 rfl rfl ?_
  refine V_ifnull 30 12 dX7_limit_9 rfl rfl (fun c_9 => ?_) (fun a_9 c_9 => ?_)
  · skip
    cases c_9
  · skip
    cases c_9
    refine V_iload_n 13 dX7_limit_12 rfl rfl ?_
    refine V_cS1i 16 (cr_ok hr) cs_X7_75 dX7_limit_13 rfl ⟨Nat.le_of_ble_eq_true rfl, Nat.le_of_ble_eq_true rfl⟩ (Nat.le_of_ble_eq_true rfl) ⟨Nat.le_of_ble_eq_true rfl, Nat.le_of_ble_eq_true rfl⟩ (fun x h' hx hle => ?_)
    obtain ⟨rfl, rfl⟩ := hx
    refine V_if_eq 30 19 dX7_limit_16 rfl rfl (fun c_16 => ?_) (fun c_16 => ?_)
    · skip
      exact absurd c_16 (by decide)
    · skip
      refine V_iload_n 20 dX7_limit_19 rfl rfl ?_
      refine V_iconst (v := (-1)) 21 dX7_limit_20 rfl (by decide) ?_
      refine V_icmp_lt 30 24 dX7_limit_21 rfl rfl (fun c_21 => ?_) (fun c_21 => ?_)
      · skip
        grind
      · skip
        refine V_iload_n 25 dX7_limit_24 rfl rfl ?_
        refine V_ldc (v := 1000000000) 27 dX7_limit_25 rfl wc_X7_94 ?_
        refine V_icmp_le 33 30 dX7_limit_27 rfl rfl (fun c_27 => ?_) (fun c_27 => ?_)
        · skip
          refine V_aload 35 dX7_limit_33 rfl rfl ?_
          refine V_getR 38 0 5 fl_X7_95 dX7_limit_35 rfl rfl (by decide) (Or.inr ⟨_, rfl⟩) (by decide) (sh_0_5 hS (by omega)) ?_
          refine V_iload_n 39 dX7_limit_38 rfl rfl ?_
          refine V_iload_n 40 dX7_limit_39 rfl rfl ?_
          refine V_iastN 41 (_) dX7_limit_40 rfl rfl (by decide) rfl (show _ < 4 by omega) (by decide) ?_
          refine V_iconst (v := 0) 42 dX7_limit_41 rfl (by decide) ?_
          refine V_iret dX7_limit_42 rfl rfl ⟨_, rfl, ?_⟩ (by first | exact Nat.le_refl _ | decide | omega) (by first | exact Nat.le_refl _ | decide | omega)
          exact ⟨rfl, rfl⟩
        · skip
          grind
theorem ct_X7_limit_bad {a r l : Int32} (hS : SHC h NA NH NI) (e : qg_i h 1 0 6 = nI NA) (hNA : NA ≤ 24) (hbad : ¬ ((0 ≤ a ∧ a < nI NA) ∧ (0 ≤ r ∧ r < 4) ∧ (-1 ≤ l ∧ l ≤ 1000000000))) : qM yX7_limit cX7_limit 5 ((some .int)) 1 21 0 0 [.inr (.inr (some (1, 0))), .inl a, .inl r, .inl l] h (pI fun x h' => x = -2 ∧ h' = h) := by
  rcases ix_c (x := a) (n := NA) (by omega) with z | ⟨b, hb, rfl⟩
  · refine qM.of (plainFor_of_name (by decide)) (Nat.le_of_ble_eq_true rfl) ?_
    refine V_aload_n 1 dX7_limit_0 rfl rfl ?_
    refine V_iload_n 2 dX7_limit_1 rfl rfl ?_
    refine V_cV1r 5 (acc_no e z) cs_X7_47 rfl rfl (by decide) dX7_limit_2 rfl ⟨Nat.le_of_ble_eq_true rfl, Nat.le_of_ble_eq_true rfl⟩ (Nat.le_of_ble_eq_true rfl) ⟨Nat.le_of_ble_eq_true rfl, Nat.le_of_ble_eq_true rfl⟩ (fun x h' hx hle => ?_)
    obtain ⟨rfl, rfl⟩ := hx
    refine V_astore 7 dX7_limit_5 rfl (by decide) ?_
    refine V_aload 9 dX7_limit_7 rfl rfl ?_
    refine V_ifnull 30 12 dX7_limit_9 rfl rfl (fun c_9 => ?_) (fun a_9 c_9 => ?_)
    · skip
      refine V_bipush (v := (-2)) 32 dX7_limit_30 rfl (by decide) ?_
      refine V_iret dX7_limit_32 rfl rfl ⟨_, rfl, ?_⟩ (by first | exact Nat.le_refl _ | decide | omega) (by first | exact Nat.le_refl _ | decide | omega)
      exact ⟨rfl, rfl⟩
    · skip
      cases c_9
  · have hv : 0 ≤ nI b ∧ nI b < nI NA := ⟨nI_pos' (by omega), nI_lt hb (by omega)⟩
    refine qM.of (plainFor_of_name (by decide)) (Nat.le_of_ble_eq_true rfl) ?_
    refine V_aload_n 1 dX7_limit_0 rfl rfl ?_
    refine V_iload_n 2 dX7_limit_1 rfl rfl ?_
    refine V_cV1r 5 (acc_ok hS e hNA hb) cs_X7_47 rfl rfl (by decide) dX7_limit_2 rfl ⟨Nat.le_of_ble_eq_true rfl, Nat.le_of_ble_eq_true rfl⟩ (Nat.le_of_ble_eq_true rfl) ⟨Nat.le_of_ble_eq_true rfl, Nat.le_of_ble_eq_true rfl⟩ (fun x h' hx hle => ?_)
    obtain ⟨rfl, rfl⟩ := hx
    refine V_astore 7 dX7_limit_5 rfl (by decide) ?_
    refine V_aload 9 dX7_limit_7 rfl rfl ?_
    refine V_ifnull 30 12 dX7_limit_9 rfl rfl (fun c_9 => ?_) (fun a_9 c_9 => ?_)
    · skip
      cases c_9
    · skip
      cases c_9
      refine V_iload_n 13 dX7_limit_12 rfl rfl ?_
      refine V_cS1i 16 (ct_X7_isResource _ _) cs_X7_75 dX7_limit_13 rfl ⟨Nat.le_of_ble_eq_true rfl, Nat.le_of_ble_eq_true rfl⟩ (Nat.le_of_ble_eq_true rfl) ⟨Nat.le_of_ble_eq_true rfl, Nat.le_of_ble_eq_true rfl⟩ (fun x h' hx hle => ?_)
      obtain ⟨rfl, rfl⟩ := hx
      refine V_if_eq 30 19 dX7_limit_16 rfl rfl (fun c_16 => ?_) (fun c_16 => ?_)
      · skip
        refine V_bipush (v := (-2)) 32 dX7_limit_30 rfl (by decide) ?_
        refine V_iret dX7_limit_32 rfl rfl ⟨_, rfl, ?_⟩ (by first | exact Nat.le_refl _ | decide | omega) (by first | exact Nat.le_refl _ | decide | omega)
        exact ⟨rfl, rfl⟩
      · skip
        refine V_iload_n 20 dX7_limit_19 rfl rfl ?_
        refine V_iconst (v := (-1)) 21 dX7_limit_20 rfl (by decide) ?_
        refine V_icmp_lt 30 24 dX7_limit_21 rfl rfl (fun c_21 => ?_) (fun c_21 => ?_)
        · skip
          refine V_bipush (v := (-2)) 32 dX7_limit_30 rfl (by decide) ?_
          refine V_iret dX7_limit_32 rfl rfl ⟨_, rfl, ?_⟩ (by first | exact Nat.le_refl _ | decide | omega) (by first | exact Nat.le_refl _ | decide | omega)
          exact ⟨rfl, rfl⟩
        · skip
          refine V_iload_n 25 dX7_limit_24 rfl rfl ?_
          refine V_ldc (v := 1000000000) 27 dX7_limit_25 rfl wc_X7_94 ?_
          refine V_icmp_le 33 30 dX7_limit_27 rfl rfl (fun c_27 => ?_) (fun c_27 => ?_)
          · skip
            exfalso; grind
          · skip
            refine V_bipush (v := (-2)) 32 dX7_limit_30 rfl (by decide) ?_
            refine V_iret dX7_limit_32 rfl rfl ⟨_, rfl, ?_⟩ (by first | exact Nat.le_refl _ | decide | omega) (by first | exact Nat.le_refl _ | decide | omega)
            exact ⟨rfl, rfl⟩
theorem ct_X7_mode_ok {t r : Nat} {m z : Int32} (hS : SHC h NA NH NI) (ht : t < 6) (hr : r < 4) (hm : 0 ≤ m ∧ m ≤ 2) (hz : 1 ≤ z ∧ z ≤ 100000) : qM yX7_mode cX7_mode 6 ((some .int)) 2 44 0 0 [.inr (.inr (some (1, 0))), .inl (nI t), .inl (nI r), .inl m, .inl z] h (pI fun x h' => x = 0 ∧ h' = qs_i (qs_i h 18 (8 * t + 2 * r) 4 m) 18 (8 * t + 2 * r) 5 z) := by
  refine qM.of (plainFor_of_name (by decide)) (Nat.le_of_ble_eq_true rfl) ?_
  refine V_aload_n 1 dX7_mode_0 rfl rfl ?_
  refine V_iload_n 2 dX7_mode_1 rfl rfl ?_
  refine V_iload_n 3 dX7_mode_2 rfl rfl ?_
  refine V_cV2r 6 (pri_ok hS ht hr) cs_X7_139 rfl rfl (by decide) dX7_mode_3 rfl ⟨Nat.le_of_ble_eq_true rfl, Nat.le_of_ble_eq_true rfl⟩ (Nat.le_of_ble_eq_true rfl) ⟨Nat.le_of_ble_eq_true rfl, Nat.le_of_ble_eq_true rfl⟩ (fun x h' hx hle => ?_)
  obtain ⟨rfl, rfl⟩ := hx
  refine V_astore 8 dX7_mode_6 rfl (by decide) ?_
  refine V_aload 10 dX7_mode_8 rfl rfl ?_
  refine V_ifnull 35 13 dX7_mode_10 rfl rfl (fun c_10 => ?_) (fun a_10 c_10 => ?_)
  · skip
    cases c_10
  · skip
    cases c_10
    refine V_iload_n 14 dX7_mode_13 rfl rfl ?_
    refine V_if_lt 35 17 dX7_mode_14 rfl rfl (fun c_14 => ?_) (fun c_14 => ?_)
    · skip
      grind
    · skip
      refine V_iload_n 18 dX7_mode_17 rfl rfl ?_
      refine V_iconst (v := 2) 19 dX7_mode_18 rfl (by decide) ?_
      refine V_icmp_gt 35 22 dX7_mode_19 rfl rfl (fun c_19 => ?_) (fun c_19 => ?_)
      · skip
        grind
      · skip
        refine V_iload 24 dX7_mode_22 rfl rfl ?_
        refine V_iconst (v := 1) 25 dX7_mode_24 rfl (by decide) ?_
        refine V_icmp_lt 35 28 dX7_mode_25 rfl rfl (fun c_25 => ?_) (fun c_25 => ?_)
        · skip
          grind
        · skip
          refine V_iload 30 dX7_mode_28 rfl rfl ?_
          refine V_ldc (v := 100000) 32 dX7_mode_30 rfl wc_X7_143 ?_
          refine V_icmp_le 38 35 dX7_mode_32 rfl rfl (fun c_32 => ?_) (fun c_32 => ?_)
          · skip
            refine V_aload 40 dX7_mode_38 rfl rfl ?_
            refine V_iload_n 41 dX7_mode_40 rfl rfl ?_
            refine V_puti 44 5 4 fl_X7_144 dX7_mode_41 rfl rfl (by decide) rfl (by decide) (Or.inl rfl) ?_
            refine V_aload 46 dX7_mode_44 rfl rfl ?_
            refine V_iload 48 dX7_mode_46 rfl rfl ?_
            refine V_puti 51 5 5 fl_X7_149 dX7_mode_48 rfl rfl (by decide) rfl (by decide) (Or.inl rfl) ?_
            refine V_iconst (v := 0) 52 dX7_mode_51 rfl (by decide) ?_
            refine V_iret dX7_mode_52 rfl rfl ⟨_, rfl, ?_⟩ (by first | exact Nat.le_refl _ | decide | omega) (by first | exact Nat.le_refl _ | decide | omega)
            exact ⟨rfl, rfl⟩
          · skip
            grind
theorem ct_X7_mode_bad {t r m z : Int32} (hS : SHC h NA NH NI) (hbad : ¬ ((0 ≤ t ∧ t < 6) ∧ (0 ≤ r ∧ r < 4) ∧ (0 ≤ m ∧ m ≤ 2) ∧ (1 ≤ z ∧ z ≤ 100000))) : qM yX7_mode cX7_mode 6 ((some .int)) 2 44 0 0 [.inr (.inr (some (1, 0))), .inl t, .inl r, .inl m, .inl z] h (pI fun x h' => x = -2 ∧ h' = h) := by
  by_cases hb : (0 ≤ t ∧ t < 6) ∧ (0 ≤ r ∧ r < 4)
  · obtain ⟨t', ht', rfl⟩ : ∃ b, b < 6 ∧ t = nI b := ix_of (n := 6) (by decide) hb.1
    obtain ⟨r', hr', rfl⟩ : ∃ b, b < 4 ∧ r = nI b := ix_of (n := 4) (by decide) hb.2
    refine qM.of (plainFor_of_name (by decide)) (Nat.le_of_ble_eq_true rfl) ?_
    refine V_aload_n 1 dX7_mode_0 rfl rfl ?_
    refine V_iload_n 2 dX7_mode_1 rfl rfl ?_
    refine V_iload_n 3 dX7_mode_2 rfl rfl ?_
    refine V_cV2r 6 (pri_ok hS ht' hr') cs_X7_139 rfl rfl (by decide) dX7_mode_3 rfl ⟨Nat.le_of_ble_eq_true rfl, Nat.le_of_ble_eq_true rfl⟩ (Nat.le_of_ble_eq_true rfl) ⟨Nat.le_of_ble_eq_true rfl, Nat.le_of_ble_eq_true rfl⟩ (fun x h' hx hle => ?_)
    obtain ⟨rfl, rfl⟩ := hx
    refine V_astore 8 dX7_mode_6 rfl (by decide) ?_
    refine V_aload 10 dX7_mode_8 rfl rfl ?_
    refine V_ifnull 35 13 dX7_mode_10 rfl rfl (fun c_10 => ?_) (fun a_10 c_10 => ?_)
    · skip
      cases c_10
    · skip
      cases c_10
      refine V_iload_n 14 dX7_mode_13 rfl rfl ?_
      refine V_if_lt 35 17 dX7_mode_14 rfl rfl (fun c_14 => ?_) (fun c_14 => ?_)
      · skip
        refine V_bipush (v := (-2)) 37 dX7_mode_35 rfl (by decide) ?_
        refine V_iret dX7_mode_37 rfl rfl ⟨_, rfl, ?_⟩ (by first | exact Nat.le_refl _ | decide | omega) (by first | exact Nat.le_refl _ | decide | omega)
        exact ⟨rfl, rfl⟩
      · skip
        refine V_iload_n 18 dX7_mode_17 rfl rfl ?_
        refine V_iconst (v := 2) 19 dX7_mode_18 rfl (by decide) ?_
        refine V_icmp_gt 35 22 dX7_mode_19 rfl rfl (fun c_19 => ?_) (fun c_19 => ?_)
        · skip
          refine V_bipush (v := (-2)) 37 dX7_mode_35 rfl (by decide) ?_
          refine V_iret dX7_mode_37 rfl rfl ⟨_, rfl, ?_⟩ (by first | exact Nat.le_refl _ | decide | omega) (by first | exact Nat.le_refl _ | decide | omega)
          exact ⟨rfl, rfl⟩
        · skip
          refine V_iload 24 dX7_mode_22 rfl rfl ?_
          refine V_iconst (v := 1) 25 dX7_mode_24 rfl (by decide) ?_
          refine V_icmp_lt 35 28 dX7_mode_25 rfl rfl (fun c_25 => ?_) (fun c_25 => ?_)
          · skip
            refine V_bipush (v := (-2)) 37 dX7_mode_35 rfl (by decide) ?_
            refine V_iret dX7_mode_37 rfl rfl ⟨_, rfl, ?_⟩ (by first | exact Nat.le_refl _ | decide | omega) (by first | exact Nat.le_refl _ | decide | omega)
            exact ⟨rfl, rfl⟩
          · skip
            refine V_iload 30 dX7_mode_28 rfl rfl ?_
            refine V_ldc (v := 100000) 32 dX7_mode_30 rfl wc_X7_143 ?_
            refine V_icmp_le 38 35 dX7_mode_32 rfl rfl (fun c_32 => ?_) (fun c_32 => ?_)
            · skip
              exfalso; grind
            · skip
              refine V_bipush (v := (-2)) 37 dX7_mode_35 rfl (by decide) ?_
              refine V_iret dX7_mode_37 rfl rfl ⟨_, rfl, ?_⟩ (by first | exact Nat.le_refl _ | decide | omega) (by first | exact Nat.le_refl _ | decide | omega)
              exact ⟨rfl, rfl⟩
  · refine qM.of (plainFor_of_name (by decide)) (Nat.le_of_ble_eq_true rfl) ?_
    refine V_aload_n 1 dX7_mode_0 rfl rfl ?_
    refine V_iload_n 2 dX7_mode_1 rfl rfl ?_
    refine V_iload_n 3 dX7_mode_2 rfl rfl ?_
    refine V_cV2r 6 (pri_no hS hb) cs_X7_139 rfl rfl (by decide) dX7_mode_3 rfl ⟨Nat.le_of_ble_eq_true rfl, Nat.le_of_ble_eq_true rfl⟩ (Nat.le_of_ble_eq_true rfl) ⟨Nat.le_of_ble_eq_true rfl, Nat.le_of_ble_eq_true rfl⟩ (fun x h' hx hle => ?_)
    obtain ⟨rfl, rfl⟩ := hx
    refine V_astore 8 dX7_mode_6 rfl (by decide) ?_
    refine V_aload 10 dX7_mode_8 rfl rfl ?_
    refine V_ifnull 35 13 dX7_mode_10 rfl rfl (fun c_10 => ?_) (fun a_10 c_10 => ?_)
    · skip
      refine V_bipush (v := (-2)) 37 dX7_mode_35 rfl (by decide) ?_
      refine V_iret dX7_mode_37 rfl rfl ⟨_, rfl, ?_⟩ (by first | exact Nat.le_refl _ | decide | omega) (by first | exact Nat.le_refl _ | decide | omega)
      exact ⟨rfl, rfl⟩
    · skip
      cases c_10
theorem ct_X7_tiers_ok {t r : Nat} {m : Int32} (hS : SHC h NA NH NI) (ht : t < 6) (hr : r < 4) (hm : 1 ≤ m ∧ m ≤ 5) : qM yX7_tiers cX7_tiers 5 ((some .int)) 2 44 0 0 [.inr (.inr (some (1, 0))), .inl (nI t), .inl (nI r), .inl m] h (pI fun x h' => x = (if m < qg_i h 18 (8 * t + 2 * r) 3 then m else qg_i h 18 (8 * t + 2 * r) 3) ∧ h' = qs_i h 18 (8 * t + 2 * r) 3 (if m < qg_i h 18 (8 * t + 2 * r) 3 then m else qg_i h 18 (8 * t + 2 * r) 3)) := by
  refine qM.of (plainFor_of_name (by decide)) (Nat.le_of_ble_eq_true rfl) ?_
  refine V_aload_n 1 dX7_tiers_0 rfl rfl ?_
  refine V_iload_n 2 dX7_tiers_1 rfl rfl ?_
  refine V_iload_n 3 dX7_tiers_2 rfl rfl ?_
  refine V_cV2r 6 (pri_ok hS ht hr) cs_X7_139 rfl rfl (by decide) dX7_tiers_3 rfl ⟨Nat.le_of_ble_eq_true rfl, Nat.le_of_ble_eq_true rfl⟩ (Nat.le_of_ble_eq_true rfl) ⟨Nat.le_of_ble_eq_true rfl, Nat.le_of_ble_eq_true rfl⟩ (fun x h' hx hle => ?_)
  obtain ⟨rfl, rfl⟩ := hx
  refine V_astore 8 dX7_tiers_6 rfl (by decide) ?_
  refine V_aload 10 dX7_tiers_8 rfl rfl ?_
  refine V_ifnull 23 13 dX7_tiers_10 rfl rfl (fun c_10 => ?_) (fun a_10 c_10 => ?_)
  · skip
    cases c_10
  · skip
    cases c_10
    refine V_iload_n 14 dX7_tiers_13 rfl rfl ?_
    refine V_iconst (v := 1) 15 dX7_tiers_14 rfl (by decide) ?_
    refine V_icmp_lt 23 18 dX7_tiers_15 rfl rfl (fun c_15 => ?_) (fun c_15 => ?_)
    · skip
      grind
    · skip
      refine V_iload_n 19 dX7_tiers_18 rfl rfl ?_
      refine V_iconst (v := 5) 20 dX7_tiers_19 rfl (by decide) ?_
      refine V_icmp_le 26 23 dX7_tiers_20 rfl rfl (fun c_20 => ?_) (fun c_20 => ?_)
      · skip
        refine V_aload 28 dX7_tiers_26 rfl rfl ?_
        refine V_aload 30 dX7_tiers_28 rfl rfl ?_
        refine V_geti 33 5 3 fl_X7_159 dX7_tiers_30 rfl rfl (by decide) rfl (by decide) ?_
        refine V_iload_n 34 dX7_tiers_33 rfl rfl ?_
        refine V_cS2i 37 (ct_J9_min_7cf53 _ _ _) cs_X7_162 dX7_tiers_34 rfl ⟨Nat.le_of_ble_eq_true rfl, Nat.le_of_ble_eq_true rfl⟩ (Nat.le_of_ble_eq_true rfl) ⟨Nat.le_of_ble_eq_true rfl, Nat.le_of_ble_eq_true rfl⟩ (fun x h' hx hle => ?_)
        obtain ⟨rfl, rfl⟩ := hx
        refine V_puti 40 5 3 fl_X7_159 dX7_tiers_37 rfl rfl (by decide) rfl (by decide) (Or.inl rfl) ?_
        refine V_aload 42 dX7_tiers_40 rfl rfl ?_
        refine V_geti 45 5 3 fl_X7_159 dX7_tiers_42 rfl rfl (by decide) rfl (by decide) ?_
        refine V_iret dX7_tiers_45 rfl rfl ⟨_, rfl, ?_⟩ (by first | exact Nat.le_refl _ | decide | omega) (by first | exact Nat.le_refl _ | decide | omega)
        exact ⟨by simp [qii], rfl⟩
      · skip
        grind
theorem ct_X7_tiers_bad {t r m : Int32} (hS : SHC h NA NH NI) (hbad : ¬ ((0 ≤ t ∧ t < 6) ∧ (0 ≤ r ∧ r < 4) ∧ (1 ≤ m ∧ m ≤ 5))) : qM yX7_tiers cX7_tiers 5 ((some .int)) 2 44 0 0 [.inr (.inr (some (1, 0))), .inl t, .inl r, .inl m] h (pI fun x h' => x = -2 ∧ h' = h) := by
  by_cases hb : (0 ≤ t ∧ t < 6) ∧ (0 ≤ r ∧ r < 4)
  · obtain ⟨t', ht', rfl⟩ : ∃ b, b < 6 ∧ t = nI b := ix_of (n := 6) (by decide) hb.1
    obtain ⟨r', hr', rfl⟩ : ∃ b, b < 4 ∧ r = nI b := ix_of (n := 4) (by decide) hb.2
    refine qM.of (plainFor_of_name (by decide)) (Nat.le_of_ble_eq_true rfl) ?_
    refine V_aload_n 1 dX7_tiers_0 rfl rfl ?_
    refine V_iload_n 2 dX7_tiers_1 rfl rfl ?_
    refine V_iload_n 3 dX7_tiers_2 rfl rfl ?_
    refine V_cV2r 6 (pri_ok hS ht' hr') cs_X7_139 rfl rfl (by decide) dX7_tiers_3 rfl ⟨Nat.le_of_ble_eq_true rfl, Nat.le_of_ble_eq_true rfl⟩ (Nat.le_of_ble_eq_true rfl) ⟨Nat.le_of_ble_eq_true rfl, Nat.le_of_ble_eq_true rfl⟩ (fun x h' hx hle => ?_)
    obtain ⟨rfl, rfl⟩ := hx
    refine V_astore 8 dX7_tiers_6 rfl (by decide) ?_
    refine V_aload 10 dX7_tiers_8 rfl rfl ?_
    refine V_ifnull 23 13 dX7_tiers_10 rfl rfl (fun c_10 => ?_) (fun a_10 c_10 => ?_)
    · skip
      cases c_10
    · skip
      cases c_10
      refine V_iload_n 14 dX7_tiers_13 rfl rfl ?_
      refine V_iconst (v := 1) 15 dX7_tiers_14 rfl (by decide) ?_
      refine V_icmp_lt 23 18 dX7_tiers_15 rfl rfl (fun c_15 => ?_) (fun c_15 => ?_)
      · skip
        refine V_bipush (v := (-2)) 25 dX7_tiers_23 rfl (by decide) ?_
        refine V_iret dX7_tiers_25 rfl rfl ⟨_, rfl, ?_⟩ (by first | exact Nat.le_refl _ | decide | omega) (by first | exact Nat.le_refl _ | decide | omega)
        exact ⟨rfl, rfl⟩
      · skip
        refine V_iload_n 19 dX7_tiers_18 rfl rfl ?_
        refine V_iconst (v := 5) 20 dX7_tiers_19 rfl (by decide) ?_
        refine V_icmp_le 26 23 dX7_tiers_20 rfl rfl (fun c_20 => ?_) (fun c_20 => ?_)
        · skip
          exfalso; grind
        · skip
          refine V_bipush (v := (-2)) 25 dX7_tiers_23 rfl (by decide) ?_
          refine V_iret dX7_tiers_25 rfl rfl ⟨_, rfl, ?_⟩ (by first | exact Nat.le_refl _ | decide | omega) (by first | exact Nat.le_refl _ | decide | omega)
          exact ⟨rfl, rfl⟩
  · refine qM.of (plainFor_of_name (by decide)) (Nat.le_of_ble_eq_true rfl) ?_
    refine V_aload_n 1 dX7_tiers_0 rfl rfl ?_
    refine V_iload_n 2 dX7_tiers_1 rfl rfl ?_
    refine V_iload_n 3 dX7_tiers_2 rfl rfl ?_
    refine V_cV2r 6 (pri_no hS hb) cs_X7_139 rfl rfl (by decide) dX7_tiers_3 rfl ⟨Nat.le_of_ble_eq_true rfl, Nat.le_of_ble_eq_true rfl⟩ (Nat.le_of_ble_eq_true rfl) ⟨Nat.le_of_ble_eq_true rfl, Nat.le_of_ble_eq_true rfl⟩ (fun x h' hx hle => ?_)
    obtain ⟨rfl, rfl⟩ := hx
    refine V_astore 8 dX7_tiers_6 rfl (by decide) ?_
    refine V_aload 10 dX7_tiers_8 rfl rfl ?_
    refine V_ifnull 23 13 dX7_tiers_10 rfl rfl (fun c_10 => ?_) (fun a_10 c_10 => ?_)
    · skip
      refine V_bipush (v := (-2)) 25 dX7_tiers_23 rfl (by decide) ?_
      refine V_iret dX7_tiers_25 rfl rfl ⟨_, rfl, ?_⟩ (by first | exact Nat.le_refl _ | decide | omega) (by first | exact Nat.le_refl _ | decide | omega)
      exact ⟨rfl, rfl⟩
    · skip
      cases c_10
theorem ct_X7_cost_ok {t r k : Nat} {n : Int64} (hS : SHC h NA NH NI) (ht : t < 6) (hr : r < 4) (hk : k < 5) (hz : 1 ≤ qg_i h 18 (8 * t + 2 * r) 5) (e : qg_i h 18 (8 * t + 2 * r) 3 = nI (k + 1)) (hn : 0 ≤ n ∧ n ≤ 10000000000) : qM yX7_cost cX7_cost 6 ((some .long)) 3 74 0 0 [.inr (.inr (some (1, 0))), .inl (nI t), .inl (nI r), .inr (.inl n)] h (pL fun x h' => x = f_cost h (8 * t + 2 * r) k n ∧ h' = h) := by
  refine qM.of (plainFor_of_name (by decide)) (Nat.le_of_ble_eq_true rfl) ?_
  refine V_aload_n 1 dX7_cost_0 rfl rfl ?_
  refine V_iload_n 2 dX7_cost_1 rfl rfl ?_
  refine V_iload_n 3 dX7_cost_2 rfl rfl ?_
  refine V_cV2r 6 (pri_ok hS ht hr) cs_X7_139 rfl rfl (by decide) dX7_cost_3 rfl ⟨Nat.le_of_ble_eq_true rfl, Nat.le_of_ble_eq_true rfl⟩ (Nat.le_of_ble_eq_true rfl) ⟨Nat.le_of_ble_eq_true rfl, Nat.le_of_ble_eq_true rfl⟩ (fun x h' hx hle => ?_)
  obtain ⟨rfl, rfl⟩ := hx
  refine V_astore 8 dX7_cost_6 rfl (by decide) ?_
  refine V_aload 10 dX7_cost_8 rfl rfl ?_
  refine V_ifnull 27 13 dX7_cost_10 rfl rfl (fun c_10 => ?_) (fun a_10 c_10 => ?_)
  · skip
    cases c_10
  · skip
    cases c_10
    refine V_lload_n 14 dX7_cost_13 rfl rfl ?_
    refine V_lconst (v := 0) 15 dX7_cost_14 rfl (by decide) ?_
    refine V_lcmp 16 dX7_cost_15 rfl ?_
    refine V_if_lt 27 19 dX7_cost_16 rfl rfl (fun c_16 => ?_) (fun c_16 => ?_)
    · (rw [lg_lt] at c_16)
      grind
    · (rw [lg_lt] at c_16)
      refine V_lload_n 20 dX7_cost_19 rfl rfl ?_
      refine V_ldc2 (v := 10000000000) 23 dX7_cost_20 rfl wc_X7_152 ?_
      refine V_lcmp 24 dX7_cost_23 rfl ?_
      refine V_if_le 31 27 dX7_cost_24 rfl rfl (fun c_24 => ?_) (fun c_24 => ?_)
      · (rw [lg_le] at c_24)
        refine V_aload 33 dX7_cost_31 rfl rfl ?_
        refine V_lload_n 34 dX7_cost_33 rfl rfl ?_
        refine V_cV1l 37 (ct_X5_costOf hS (by omega) hk hz e) cs_X7_169 rfl rfl (by decide) dX7_cost_34 rfl ⟨Nat.le_of_ble_eq_true rfl, Nat.le_of_ble_eq_true rfl⟩ (Nat.le_of_ble_eq_true rfl) ⟨Nat.le_of_ble_eq_true rfl, Nat.le_of_ble_eq_true rfl⟩ (fun x h' hx hle => ?_)
        obtain ⟨rfl, rfl⟩ := hx
        refine V_lret dX7_cost_37 rfl ⟨_, rfl, ?_⟩ (by first | exact Nat.le_refl _ | decide | omega) (by first | exact Nat.le_refl _ | decide | omega)
        exact ⟨rfl, rfl⟩
      · (rw [lg_le] at c_24)
        grind
theorem ct_X7_cost_bad {t r : Int32} {n : Int64} (hS : SHC h NA NH NI) (hbad : ¬ ((0 ≤ t ∧ t < 6) ∧ (0 ≤ r ∧ r < 4) ∧ (0 ≤ n ∧ n ≤ 10000000000))) : qM yX7_cost cX7_cost 6 ((some .long)) 3 74 0 0 [.inr (.inr (some (1, 0))), .inl t, .inl r, .inr (.inl n)] h (pL fun x h' => x = -2 ∧ h' = h) := by
  by_cases hb : (0 ≤ t ∧ t < 6) ∧ (0 ≤ r ∧ r < 4)
  · obtain ⟨t', ht', rfl⟩ : ∃ b, b < 6 ∧ t = nI b := ix_of (n := 6) (by decide) hb.1
    obtain ⟨r', hr', rfl⟩ : ∃ b, b < 4 ∧ r = nI b := ix_of (n := 4) (by decide) hb.2
    refine qM.of (plainFor_of_name (by decide)) (Nat.le_of_ble_eq_true rfl) ?_
    refine V_aload_n 1 dX7_cost_0 rfl rfl ?_
    refine V_iload_n 2 dX7_cost_1 rfl rfl ?_
    refine V_iload_n 3 dX7_cost_2 rfl rfl ?_
    refine V_cV2r 6 (pri_ok hS ht' hr') cs_X7_139 rfl rfl (by decide) dX7_cost_3 rfl ⟨Nat.le_of_ble_eq_true rfl, Nat.le_of_ble_eq_true rfl⟩ (Nat.le_of_ble_eq_true rfl) ⟨Nat.le_of_ble_eq_true rfl, Nat.le_of_ble_eq_true rfl⟩ (fun x h' hx hle => ?_)
    obtain ⟨rfl, rfl⟩ := hx
    refine V_astore 8 dX7_cost_6 rfl (by decide) ?_
    refine V_aload 10 dX7_cost_8 rfl rfl ?_
    refine V_ifnull 27 13 dX7_cost_10 rfl rfl (fun c_10 => ?_) (fun a_10 c_10 => ?_)
    · skip
      cases c_10
    · skip
      cases c_10
      refine V_lload_n 14 dX7_cost_13 rfl rfl ?_
      refine V_lconst (v := 0) 15 dX7_cost_14 rfl (by decide) ?_
      refine V_lcmp 16 dX7_cost_15 rfl ?_
      refine V_if_lt 27 19 dX7_cost_16 rfl rfl (fun c_16 => ?_) (fun c_16 => ?_)
      · (rw [lg_lt] at c_16)
        refine V_ldc2 (v := -2) 30 dX7_cost_27 rfl wc_X7_167 ?_
        refine V_lret dX7_cost_30 rfl ⟨_, rfl, ?_⟩ (by first | exact Nat.le_refl _ | decide | omega) (by first | exact Nat.le_refl _ | decide | omega)
        exact ⟨rfl, rfl⟩
      · (rw [lg_lt] at c_16)
        refine V_lload_n 20 dX7_cost_19 rfl rfl ?_
        refine V_ldc2 (v := 10000000000) 23 dX7_cost_20 rfl wc_X7_152 ?_
        refine V_lcmp 24 dX7_cost_23 rfl ?_
        refine V_if_le 31 27 dX7_cost_24 rfl rfl (fun c_24 => ?_) (fun c_24 => ?_)
        · (rw [lg_le] at c_24)
          exfalso; grind
        · (rw [lg_le] at c_24)
          refine V_ldc2 (v := -2) 30 dX7_cost_27 rfl wc_X7_167 ?_
          refine V_lret dX7_cost_30 rfl ⟨_, rfl, ?_⟩ (by first | exact Nat.le_refl _ | decide | omega) (by first | exact Nat.le_refl _ | decide | omega)
          exact ⟨rfl, rfl⟩
  · refine qM.of (plainFor_of_name (by decide)) (Nat.le_of_ble_eq_true rfl) ?_
    refine V_aload_n 1 dX7_cost_0 rfl rfl ?_
    refine V_iload_n 2 dX7_cost_1 rfl rfl ?_
    refine V_iload_n 3 dX7_cost_2 rfl rfl ?_
    refine V_cV2r 6 (pri_no hS hb) cs_X7_139 rfl rfl (by decide) dX7_cost_3 rfl ⟨Nat.le_of_ble_eq_true rfl, Nat.le_of_ble_eq_true rfl⟩ (Nat.le_of_ble_eq_true rfl) ⟨Nat.le_of_ble_eq_true rfl, Nat.le_of_ble_eq_true rfl⟩ (fun x h' hx hle => ?_)
    obtain ⟨rfl, rfl⟩ := hx
    refine V_astore 8 dX7_cost_6 rfl (by decide) ?_
    refine V_aload 10 dX7_cost_8 rfl rfl ?_
    refine V_ifnull 27 13 dX7_cost_10 rfl rfl (fun c_10 => ?_) (fun a_10 c_10 => ?_)
    · skip
      refine V_ldc2 (v := -2) 30 dX7_cost_27 rfl wc_X7_167 ?_
      refine V_lret dX7_cost_30 rfl ⟨_, rfl, ?_⟩ (by first | exact Nat.le_refl _ | decide | omega) (by first | exact Nat.le_refl _ | decide | omega)
      exact ⟨rfl, rfl⟩
    · skip
      cases c_10
theorem ct_X7_tier {t r tc : Nat} {j pr fe : Int32} {last : Int64} (hS : SHC h NA NH NI) (ht : t < 6) (hr : r < 4) (hla : 1 ≤ last ∧ last ≤ 10000000000) (hpr : 0 ≤ pr ∧ pr ≤ 1000000) (hfe : 0 ≤ fe ∧ fe ≤ 1000000000) (htc : 1 ≤ tc ∧ tc ≤ 5) (e : qg_i h 18 (8 * t + 2 * r) 3 = nI tc) : qM yX7_tier cX7_tier 9 ((some .int)) 2 55 0 0 [.inr (.inr (some (1, 0))), .inl (nI t), .inl (nI r), .inl j, .inr (.inl last), .inl pr, .inl fe] h (pI fun x h' => (x = -2 ∧ h' = h ∧ ¬ ∃ j' : Nat, j = nI j' ∧ j' ≤ tc ∧ j' < 5 ∧ ∀ i, i + 1 < (if j' = tc then tc + 1 else tc) → f_rise h (8 * t + 2 * r) j' last i) ∨ (x = 0 ∧ ∃ j' : Nat, (j = nI j' ∧ j' ≤ tc ∧ j' < 5 ∧ ∀ i, i + 1 < (if j' = tc then tc + 1 else tc) → f_rise h (8 * t + 2 * r) j' last i) ∧ h' = f_tier h (8 * t + 2 * r) j' (if j' = tc then tc + 1 else tc) last pr fe)) := by
  refine qM.of (plainFor_of_name (by decide)) (Nat.le_of_ble_eq_true rfl) ?_
  refine V_aload_n 1 dX7_tier_0 rfl rfl ?_
  refine V_iload_n 2 dX7_tier_1 rfl rfl ?_
  refine V_iload_n 3 dX7_tier_2 rfl rfl ?_
  refine V_cV2r 6 (pri_ok hS ht hr) cs_X7_139 rfl rfl (by decide) dX7_tier_3 rfl ⟨Nat.le_of_ble_eq_true rfl, Nat.le_of_ble_eq_true rfl⟩ (Nat.le_of_ble_eq_true rfl) ⟨Nat.le_of_ble_eq_true rfl, Nat.le_of_ble_eq_true rfl⟩ (fun x h' hx hle => ?_)
  obtain ⟨rfl, rfl⟩ := hx
  refine V_astore 8 dX7_tier_6 rfl (by decide) ?_
  refine V_aload 10 dX7_tier_8 rfl rfl ?_
  refine V_ifnull 29 13 dX7_tier_10 rfl rfl (fun c_10 => ?_) (fun a_10 c_10 => ?_)
  · skip
    cases c_10
  · skip
    cases c_10
    refine V_lload 15 dX7_tier_13 rfl rfl ?_
    refine V_lconst (v := 1) 16 dX7_tier_15 rfl (by decide) ?_
    refine V_lcmp 17 dX7_tier_16 rfl ?_
    refine V_if_lt 29 20 dX7_tier_17 rfl rfl (fun c_17 => ?_) (fun c_17 => ?_)
    · (rw [lg_lt] at c_17)
      grind
    · (rw [lg_lt] at c_17)
      refine V_lload 22 dX7_tier_20 rfl rfl ?_
      refine V_ldc2 (v := 10000000000) 25 dX7_tier_22 rfl wc_X7_152 ?_
      refine V_lcmp 26 dX7_tier_25 rfl ?_
      refine V_if_le 32 29 dX7_tier_26 rfl rfl (fun c_26 => ?_) (fun c_26 => ?_)
      · (rw [lg_le] at c_26)
        refine V_iload 34 dX7_tier_32 rfl rfl ?_
        refine V_if_lt 56 37 dX7_tier_34 rfl rfl (fun c_34 => ?_) (fun c_34 => ?_)
        · skip
          grind
        · skip
          refine V_iload 39 dX7_tier_37 rfl rfl ?_
          refine V_ldc (v := 1000000) 41 dX7_tier_39 rfl wc_X7_154 ?_
          refine V_icmp_gt 56 44 dX7_tier_41 rfl rfl (fun c_41 => ?_) (fun c_41 => ?_)
          · skip
            grind
          · skip
            refine V_iload 46 dX7_tier_44 rfl rfl ?_
            refine V_if_lt 56 49 dX7_tier_46 rfl rfl (fun c_46 => ?_) (fun c_46 => ?_)
            · skip
              grind
            · skip
              refine V_iload 51 dX7_tier_49 rfl rfl ?_
              refine V_ldc (v := 1000000000) 53 dX7_tier_51 rfl wc_X7_94 ?_
              refine V_icmp_le 59 56 dX7_tier_53 rfl rfl (fun c_53 => ?_) (fun c_53 => ?_)
              · skip
                refine V_aload 61 dX7_tier_59 rfl rfl ?_
                refine V_iload_n 62 dX7_tier_61 rfl rfl ?_
                refine V_lload 64 dX7_tier_62 rfl rfl ?_
                refine V_iload 66 dX7_tier_64 rfl rfl ?_
                refine V_iload 68 dX7_tier_66 rfl rfl ?_
                refine V_cV4i 71 (ct_X5_putTier hS (by omega) htc e) cs_X7_155 rfl rfl (by decide) dX7_tier_68 rfl ⟨Nat.le_of_ble_eq_true rfl, Nat.le_of_ble_eq_true rfl⟩ (Nat.le_of_ble_eq_true rfl) ⟨Nat.le_of_ble_eq_true rfl, Nat.le_of_ble_eq_true rfl⟩ (fun x h' hx hle => ?_)
                skip
                refine V_if_eq 78 74 dX7_tier_71 rfl rfl (fun c_71 => ?_) (fun c_71 => ?_)
                · skip
                  refine V_bipush (v := (-2)) 80 dX7_tier_78 rfl (by decide) ?_
                  refine V_iret dX7_tier_80 rfl rfl ⟨_, rfl, ?_⟩ (by first | exact Nat.le_refl _ | decide | omega) (by first | exact Nat.le_refl _ | decide | omega)
                  rcases hx with ⟨q1, q2, q3⟩ | ⟨q1, q2⟩
                  · first | exact Or.inl ⟨rfl, q2, q3⟩ | exact absurd q1 c_71
                  · first | exact Or.inr ⟨rfl, q2⟩ | (rw [q1] at c_71; exact absurd c_71 (by decide))
                · skip
                  refine V_iconst (v := 0) 75 dX7_tier_74 rfl (by decide) ?_
                  refine V_goto 80 dX7_tier_75 rfl ?_
                  refine V_iret dX7_tier_80 rfl rfl ⟨_, rfl, ?_⟩ (by first | exact Nat.le_refl _ | decide | omega) (by first | exact Nat.le_refl _ | decide | omega)
                  rcases hx with ⟨q1, q2, q3⟩ | ⟨q1, q2⟩
                  · first | exact Or.inl ⟨rfl, q2, q3⟩ | exact absurd q1 c_71
                  · first | exact Or.inr ⟨rfl, q2⟩ | (rw [q1] at c_71; exact absurd c_71 (by decide))
              · skip
                grind
      · (rw [lg_le] at c_26)
        grind
theorem ct_X7_tier_bad {t r j pr fe : Int32} {last : Int64} (hS : SHC h NA NH NI) (hbad : ¬ ((0 ≤ t ∧ t < 6) ∧ (0 ≤ r ∧ r < 4) ∧ (1 ≤ last ∧ last ≤ 10000000000) ∧ (0 ≤ pr ∧ pr ≤ 1000000) ∧ (0 ≤ fe ∧ fe ≤ 1000000000))) : qM yX7_tier cX7_tier 9 ((some .int)) 2 55 0 0 [.inr (.inr (some (1, 0))), .inl t, .inl r, .inl j, .inr (.inl last), .inl pr, .inl fe] h (pI fun x h' => x = -2 ∧ h' = h) := by
  by_cases hb : (0 ≤ t ∧ t < 6) ∧ (0 ≤ r ∧ r < 4)
  · obtain ⟨t', ht', rfl⟩ : ∃ b, b < 6 ∧ t = nI b := ix_of (n := 6) (by decide) hb.1
    obtain ⟨r', hr', rfl⟩ : ∃ b, b < 4 ∧ r = nI b := ix_of (n := 4) (by decide) hb.2
    refine qM.of (plainFor_of_name (by decide)) (Nat.le_of_ble_eq_true rfl) ?_
    refine V_aload_n 1 dX7_tier_0 rfl rfl ?_
    refine V_iload_n 2 dX7_tier_1 rfl rfl ?_
    refine V_iload_n 3 dX7_tier_2 rfl rfl ?_
    refine V_cV2r 6 (pri_ok hS ht' hr') cs_X7_139 rfl rfl (by decide) dX7_tier_3 rfl ⟨Nat.le_of_ble_eq_true rfl, Nat.le_of_ble_eq_true rfl⟩ (Nat.le_of_ble_eq_true rfl) ⟨Nat.le_of_ble_eq_true rfl, Nat.le_of_ble_eq_true rfl⟩ (fun x h' hx hle => ?_)
    obtain ⟨rfl, rfl⟩ := hx
    refine V_astore 8 dX7_tier_6 rfl (by decide) ?_
    refine V_aload 10 dX7_tier_8 rfl rfl ?_
    refine V_ifnull 29 13 dX7_tier_10 rfl rfl (fun c_10 => ?_) (fun a_10 c_10 => ?_)
    · skip
      cases c_10
    · skip
      cases c_10
      refine V_lload 15 dX7_tier_13 rfl rfl ?_
      refine V_lconst (v := 1) 16 dX7_tier_15 rfl (by decide) ?_
      refine V_lcmp 17 dX7_tier_16 rfl ?_
      refine V_if_lt 29 20 dX7_tier_17 rfl rfl (fun c_17 => ?_) (fun c_17 => ?_)
      · (rw [lg_lt] at c_17)
        refine V_bipush (v := (-2)) 31 dX7_tier_29 rfl (by decide) ?_
        refine V_iret dX7_tier_31 rfl rfl ⟨_, rfl, ?_⟩ (by first | exact Nat.le_refl _ | decide | omega) (by first | exact Nat.le_refl _ | decide | omega)
        exact ⟨rfl, rfl⟩
      · (rw [lg_lt] at c_17)
        refine V_lload 22 dX7_tier_20 rfl rfl ?_
        refine V_ldc2 (v := 10000000000) 25 dX7_tier_22 rfl wc_X7_152 ?_
        refine V_lcmp 26 dX7_tier_25 rfl ?_
        refine V_if_le 32 29 dX7_tier_26 rfl rfl (fun c_26 => ?_) (fun c_26 => ?_)
        · (rw [lg_le] at c_26)
          refine V_iload 34 dX7_tier_32 rfl rfl ?_
          refine V_if_lt 56 37 dX7_tier_34 rfl rfl (fun c_34 => ?_) (fun c_34 => ?_)
          · skip
            refine V_bipush (v := (-2)) 58 dX7_tier_56 rfl (by decide) ?_
            refine V_iret dX7_tier_58 rfl rfl ⟨_, rfl, ?_⟩ (by first | exact Nat.le_refl _ | decide | omega) (by first | exact Nat.le_refl _ | decide | omega)
            exact ⟨rfl, rfl⟩
          · skip
            refine V_iload 39 dX7_tier_37 rfl rfl ?_
            refine V_ldc (v := 1000000) 41 dX7_tier_39 rfl wc_X7_154 ?_
            refine V_icmp_gt 56 44 dX7_tier_41 rfl rfl (fun c_41 => ?_) (fun c_41 => ?_)
            · skip
              refine V_bipush (v := (-2)) 58 dX7_tier_56 rfl (by decide) ?_
              refine V_iret dX7_tier_58 rfl rfl ⟨_, rfl, ?_⟩ (by first | exact Nat.le_refl _ | decide | omega) (by first | exact Nat.le_refl _ | decide | omega)
              exact ⟨rfl, rfl⟩
            · skip
              refine V_iload 46 dX7_tier_44 rfl rfl ?_
              refine V_if_lt 56 49 dX7_tier_46 rfl rfl (fun c_46 => ?_) (fun c_46 => ?_)
              · skip
                refine V_bipush (v := (-2)) 58 dX7_tier_56 rfl (by decide) ?_
                refine V_iret dX7_tier_58 rfl rfl ⟨_, rfl, ?_⟩ (by first | exact Nat.le_refl _ | decide | omega) (by first | exact Nat.le_refl _ | decide | omega)
                exact ⟨rfl, rfl⟩
              · skip
                refine V_iload 51 dX7_tier_49 rfl rfl ?_
                refine V_ldc (v := 1000000000) 53 dX7_tier_51 rfl wc_X7_94 ?_
                refine V_icmp_le 59 56 dX7_tier_53 rfl rfl (fun c_53 => ?_) (fun c_53 => ?_)
                · skip
                  exfalso; grind
                · skip
                  refine V_bipush (v := (-2)) 58 dX7_tier_56 rfl (by decide) ?_
                  refine V_iret dX7_tier_58 rfl rfl ⟨_, rfl, ?_⟩ (by first | exact Nat.le_refl _ | decide | omega) (by first | exact Nat.le_refl _ | decide | omega)
                  exact ⟨rfl, rfl⟩
        · (rw [lg_le] at c_26)
          refine V_bipush (v := (-2)) 31 dX7_tier_29 rfl (by decide) ?_
          refine V_iret dX7_tier_31 rfl rfl ⟨_, rfl, ?_⟩ (by first | exact Nat.le_refl _ | decide | omega) (by first | exact Nat.le_refl _ | decide | omega)
          exact ⟨rfl, rfl⟩
  · refine qM.of (plainFor_of_name (by decide)) (Nat.le_of_ble_eq_true rfl) ?_
    refine V_aload_n 1 dX7_tier_0 rfl rfl ?_
    refine V_iload_n 2 dX7_tier_1 rfl rfl ?_
    refine V_iload_n 3 dX7_tier_2 rfl rfl ?_
    refine V_cV2r 6 (pri_no hS hb) cs_X7_139 rfl rfl (by decide) dX7_tier_3 rfl ⟨Nat.le_of_ble_eq_true rfl, Nat.le_of_ble_eq_true rfl⟩ (Nat.le_of_ble_eq_true rfl) ⟨Nat.le_of_ble_eq_true rfl, Nat.le_of_ble_eq_true rfl⟩ (fun x h' hx hle => ?_)
    obtain ⟨rfl, rfl⟩ := hx
    refine V_astore 8 dX7_tier_6 rfl (by decide) ?_
    refine V_aload 10 dX7_tier_8 rfl rfl ?_
    refine V_ifnull 29 13 dX7_tier_10 rfl rfl (fun c_10 => ?_) (fun a_10 c_10 => ?_)
    · skip
      refine V_bipush (v := (-2)) 31 dX7_tier_29 rfl (by decide) ?_
      refine V_iret dX7_tier_31 rfl rfl ⟨_, rfl, ?_⟩ (by first | exact Nat.le_refl _ | decide | omega) (by first | exact Nat.le_refl _ | decide | omega)
      exact ⟨rfl, rfl⟩
    · skip
      cases c_10
end CQ
