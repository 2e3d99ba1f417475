/-! The reference: calls with their refusals -/
section RH
variable {h : qH}
theorem acc_of {na : Nat} {x : Int32} (e : qg_i h 33 0 1 = nI na) (hna : na ≤ 24) (c : ¬ (if 0 ≤ x ∧ x < qg_i h 33 0 1 then (1 : Int32) else 0) = 0) : ∃ b, b < na ∧ x = nI b := by
  have hx : 0 ≤ x ∧ x < nI na := by
    rw [← e]
    exact Classical.byContradiction fun q => c (if_neg q)
  rcases pk_ix x (n := na) (by omega) with z | z | z
  · grind
  · grind
  · exact z
theorem res_of {x : Int32} {n : Nat} (hn : n < 2 ^ 31) (c : ¬ (if 0 ≤ x ∧ x < nI n then (1 : Int32) else 0) = 0) : ∃ b, b < n ∧ x = nI b := by
  have hx : 0 ≤ x ∧ x < nI n := Classical.byContradiction fun q => c (if_neg q)
  rcases pk_ix x (n := n) hn with z | z | z
  · grind
  · grind
  · exact z
theorem ct_X8_used_ok {na b r p : Nat} (hS : SHR h) (e : qg_i h 33 0 1 = nI na) (hna : na ≤ 24) (hp : WI (qg_i h 35 0) na) (hb : b < na) (hr : r < 4) (hpp : p < 100) : qM yX8_used cX8_used 4 ((some .long)) 2 49 0 0 [.inr (.inr (some (33, 0))), .inl (nI b), .inl (nI r), .inl (nI p)] h (pL fun x h' => x = m_used h na b r p ∧ h' = h) := by
  refine qM.of (plainFor_of_name (by decide)) (Nat.le_of_ble_eq_true rfl) ?_
  refine V_aload_n 1 dX8_used_0 rfl rfl ?_
  refine V_iload_n 2 dX8_used_1 rfl rfl ?_
  refine V_cV1i 5 (ct_isAcc_ok e hna hb) cs_X8_11 rfl rfl (by decide) dX8_used_2 rfl ⟨Nat.le_of_ble_eq_true rfl, Nat.le_of_ble_eq_true rfl⟩ (Nat.le_of_ble_eq_true rfl) ⟨Nat.le_of_ble_eq_true rfl, Nat.le_of_ble_eq_true rfl⟩ (fun x h' hx hle => ?_)
  obtain ⟨rfl, rfl⟩ := hx
  refine V_if_eq 35 8 dX8_used_5 rfl rfl (fun c_5 => ?_) (fun c_5 => ?_)
  · skip
    exact absurd c_5 (by decide)
  · skip
    refine V_iload_n 9 dX8_used_8 rfl rfl ?_
    refine V_cS1i 12 (ct_isRes_ok hr) cs_X8_28 dX8_used_9 rfl ⟨Nat.le_of_ble_eq_true rfl, Nat.le_of_ble_eq_true rfl⟩ (Nat.le_of_ble_eq_true rfl) ⟨Nat.le_of_ble_eq_true rfl, Nat.le_of_ble_eq_true rfl⟩ (fun x h' hx hle => ?_)
    obtain ⟨rfl, rfl⟩ := hx
    refine V_if_eq 35 15 dX8_used_12 rfl rfl (fun c_12 => ?_) (fun c_12 => ?_)
    · skip
      exact absurd c_12 (by decide)
    · skip
      refine V_iload_n 16 dX8_used_15 rfl rfl ?_
      refine V_if_lt 35 19 dX8_used_16 rfl rfl (fun c_16 => ?_) (fun c_16 => ?_)
      · skip
        exact absurd c_16 (nI_pos (by omega))
      · skip
        refine V_iload_n 20 dX8_used_19 rfl rfl ?_
        refine V_bipush (v := 100) 22 dX8_used_20 rfl (by decide) ?_
        refine V_icmp_ge 35 25 dX8_used_22 rfl rfl (fun c_22 => ?_) (fun c_22 => ?_)
        · skip
          exact absurd c_22 (nI_ge (b := 100) hpp (by omega))
        · skip
          refine V_aload_n 26 dX8_used_25 rfl rfl ?_
          refine V_iload_n 27 dX8_used_26 rfl rfl ?_
          refine V_iload_n 28 dX8_used_27 rfl rfl ?_
          refine V_iload_n 29 dX8_used_28 rfl rfl ?_
          refine V_cV3l 32 (ct_X8_usedOf hS e hna hp hb hr hpp) cs_X8_71 rfl rfl (by decide) dX8_used_29 rfl ⟨Nat.le_of_ble_eq_true rfl, Nat.le_of_ble_eq_true rfl⟩ (Nat.le_of_ble_eq_true rfl) ⟨Nat.le_of_ble_eq_true rfl, Nat.le_of_ble_eq_true rfl⟩ (fun x h' hx hle => ?_)
          obtain ⟨rfl, rfl⟩ := hx
          refine V_goto 38 dX8_used_32 rfl ?_
          refine V_lret dX8_used_38 rfl ⟨_, rfl, ?_⟩ (by first | exact Nat.le_refl _ | decide | omega) (by first | exact Nat.le_refl _ | decide | omega)
          exact ⟨rfl, rfl⟩
theorem ct_X8_used_bad {a r p : Int32} (hbad : ¬ ((0 ≤ a ∧ a < qg_i h 33 0 1) ∧ (0 ≤ r ∧ r < 4) ∧ (0 ≤ p ∧ p < 100))) : qM yX8_used cX8_used 4 ((some .long)) 2 49 0 0 [.inr (.inr (some (33, 0))), .inl a, .inl r, .inl p] h (pL fun x h' => x = -2 ∧ h' = h) := by
  refine qM.of (plainFor_of_name (by decide)) (Nat.le_of_ble_eq_true rfl) ?_
  refine V_aload_n 1 dX8_used_0 rfl rfl ?_
  refine V_iload_n 2 dX8_used_1 rfl rfl ?_
  refine V_cV1i 5 (ct_X8_isAccount _ _) cs_X8_11 rfl rfl (by decide) dX8_used_2 rfl ⟨Nat.le_of_ble_eq_true rfl, Nat.le_of_ble_eq_true rfl⟩ (Nat.le_of_ble_eq_true rfl) ⟨Nat.le_of_ble_eq_true rfl, Nat.le_of_ble_eq_true rfl⟩ (fun x h' hx hle => ?_)
  obtain ⟨rfl, rfl⟩ := hx
  refine V_if_eq 35 8 dX8_used_5 rfl rfl (fun c_5 => ?_) (fun c_5 => ?_)
  · skip
    refine V_ldc2 (v := -2) 38 dX8_used_35 rfl wc_X8_75 ?_
    refine V_lret dX8_used_38 rfl ⟨_, rfl, ?_⟩ (by first | exact Nat.le_refl _ | decide | omega) (by first | exact Nat.le_refl _ | decide | omega)
    exact ⟨rfl, rfl⟩
  · skip
    refine V_iload_n 9 dX8_used_8 rfl rfl ?_
    refine V_cS1i 12 (ct_X8_isResource _ _) cs_X8_28 dX8_used_9 rfl ⟨Nat.le_of_ble_eq_true rfl, Nat.le_of_ble_eq_true rfl⟩ (Nat.le_of_ble_eq_true rfl) ⟨Nat.le_of_ble_eq_true rfl, Nat.le_of_ble_eq_true rfl⟩ (fun x h' hx hle => ?_)
    obtain ⟨rfl, rfl⟩ := hx
    refine V_if_eq 35 15 dX8_used_12 rfl rfl (fun c_12 => ?_) (fun c_12 => ?_)
    · skip
      refine V_ldc2 (v := -2) 38 dX8_used_35 rfl wc_X8_75 ?_
      refine V_lret dX8_used_38 rfl ⟨_, rfl, ?_⟩ (by first | exact Nat.le_refl _ | decide | omega) (by first | exact Nat.le_refl _ | decide | omega)
      exact ⟨rfl, rfl⟩
    · skip
      refine V_iload_n 16 dX8_used_15 rfl rfl ?_
      refine V_if_lt 35 19 dX8_used_16 rfl rfl (fun c_16 => ?_) (fun c_16 => ?_)
      · skip
        refine V_ldc2 (v := -2) 38 dX8_used_35 rfl wc_X8_75 ?_
        refine V_lret dX8_used_38 rfl ⟨_, rfl, ?_⟩ (by first | exact Nat.le_refl _ | decide | omega) (by first | exact Nat.le_refl _ | decide | omega)
        exact ⟨rfl, rfl⟩
      · skip
        refine V_iload_n 20 dX8_used_19 rfl rfl ?_
        refine V_bipush (v := 100) 22 dX8_used_20 rfl (by decide) ?_
        refine V_icmp_ge 35 25 dX8_used_22 rfl rfl (fun c_22 => ?_) (fun c_22 => ?_)
        · skip
          refine V_ldc2 (v := -2) 38 dX8_used_35 rfl wc_X8_75 ?_
          refine V_lret dX8_used_38 rfl ⟨_, rfl, ?_⟩ (by first | exact Nat.le_refl _ | decide | omega) (by first | exact Nat.le_refl _ | decide | omega)
          exact ⟨rfl, rfl⟩
        · skip
          exfalso; grind
theorem ct_X8_held_ok {na nh b r : Nat} (hS : SHR h) (ea : qg_i h 33 0 1 = nI na) (hna : na ≤ 24) (hp : WI (qg_i h 35 0) na) (e : qg_i h 33 0 10 = nI nh) (hnh : nh ≤ 200) (hH : WH h na nh) (hb : b < na) (hr : r < 4) : qM yX8_held cX8_held 3 ((some .int)) 2 47 0 0 [.inr (.inr (some (33, 0))), .inl (nI b), .inl (nI r)] h (pI fun x h' => x = m_held h nh b (nI r) ∧ h' = h) := by
  refine qM.of (plainFor_of_name (by decide)) (Nat.le_of_ble_eq_true rfl) ?_
  refine V_aload_n 1 dX8_held_0 rfl rfl ?_
  refine V_iload_n 2 dX8_held_1 rfl rfl ?_
  refine V_cV1i 5 (ct_isAcc_ok ea hna hb) cs_X8_11 rfl rfl (by decide) dX8_held_2 rfl ⟨Nat.le_of_ble_eq_true rfl, Nat.le_of_ble_eq_true rfl⟩ (Nat.le_of_ble_eq_true rfl) ⟨Nat.le_of_ble_eq_true rfl, Nat.le_of_ble_eq_true rfl⟩ (fun x h' hx hle => ?_)
  obtain ⟨rfl, rfl⟩ := hx
  refine V_if_eq 24 8 dX8_held_5 rfl rfl (fun c_5 => ?_) (fun c_5 => ?_)
  · skip
    exact absurd c_5 (by decide)
  · skip
    refine V_iload_n 9 dX8_held_8 rfl rfl ?_
    refine V_cS1i 12 (ct_isRes_ok hr) cs_X8_28 dX8_held_9 rfl ⟨Nat.le_of_ble_eq_true rfl, Nat.le_of_ble_eq_true rfl⟩ (Nat.le_of_ble_eq_true rfl) ⟨Nat.le_of_ble_eq_true rfl, Nat.le_of_ble_eq_true rfl⟩ (fun x h' hx hle => ?_)
    obtain ⟨rfl, rfl⟩ := hx
    refine V_if_eq 24 15 dX8_held_12 rfl rfl (fun c_12 => ?_) (fun c_12 => ?_)
    · skip
      exact absurd c_12 (by decide)
    · skip
      refine V_aload_n 16 dX8_held_15 rfl rfl ?_
      refine V_iload_n 17 dX8_held_16 rfl rfl ?_
      refine V_iload_n 18 dX8_held_17 rfl rfl ?_
      refine V_cV2i 21 (ct_X8_heldOf hS hna hp e hnh hH hb) cs_X8_94 rfl rfl (by decide) dX8_held_18 rfl ⟨Nat.le_of_ble_eq_true rfl, Nat.le_of_ble_eq_true rfl⟩ (Nat.le_of_ble_eq_true rfl) ⟨Nat.le_of_ble_eq_true rfl, Nat.le_of_ble_eq_true rfl⟩ (fun x h' hx hle => ?_)
      obtain ⟨rfl, rfl⟩ := hx
      refine V_goto 26 dX8_held_21 rfl ?_
      refine V_iret dX8_held_26 rfl rfl ⟨_, rfl, ?_⟩ (by first | exact Nat.le_refl _ | decide | omega) (by first | exact Nat.le_refl _ | decide | omega)
      exact ⟨rfl, rfl⟩
theorem ct_X8_held_bad {a r : Int32} (hbad : ¬ ((0 ≤ a ∧ a < qg_i h 33 0 1) ∧ (0 ≤ r ∧ r < 4))) : qM yX8_held cX8_held 3 ((some .int)) 2 47 0 0 [.inr (.inr (some (33, 0))), .inl a, .inl r] h (pI fun x h' => x = -2 ∧ h' = h) := by
  refine qM.of (plainFor_of_name (by decide)) (Nat.le_of_ble_eq_true rfl) ?_
  refine V_aload_n 1 dX8_held_0 rfl rfl ?_
  refine V_iload_n 2 dX8_held_1 rfl rfl ?_
  refine V_cV1i 5 (ct_X8_isAccount _ _) cs_X8_11 rfl rfl (by decide) dX8_held_2 rfl ⟨Nat.le_of_ble_eq_true rfl, Nat.le_of_ble_eq_true rfl⟩ (Nat.le_of_ble_eq_true rfl) ⟨Nat.le_of_ble_eq_true rfl, Nat.le_of_ble_eq_true rfl⟩ (fun x h' hx hle => ?_)
  obtain ⟨rfl, rfl⟩ := hx
  refine V_if_eq 24 8 dX8_held_5 rfl rfl (fun c_5 => ?_) (fun c_5 => ?_)
  · skip
    refine V_bipush (v := (-2)) 26 dX8_held_24 rfl (by decide) ?_
    refine V_iret dX8_held_26 rfl rfl ⟨_, rfl, ?_⟩ (by first | exact Nat.le_refl _ | decide | omega) (by first | exact Nat.le_refl _ | decide | omega)
    exact ⟨rfl, rfl⟩
  · skip
    refine V_iload_n 9 dX8_held_8 rfl rfl ?_
    refine V_cS1i 12 (ct_X8_isResource _ _) cs_X8_28 dX8_held_9 rfl ⟨Nat.le_of_ble_eq_true rfl, Nat.le_of_ble_eq_true rfl⟩ (Nat.le_of_ble_eq_true rfl) ⟨Nat.le_of_ble_eq_true rfl, Nat.le_of_ble_eq_true rfl⟩ (fun x h' hx hle => ?_)
    obtain ⟨rfl, rfl⟩ := hx
    refine V_if_eq 24 15 dX8_held_12 rfl rfl (fun c_12 => ?_) (fun c_12 => ?_)
    · skip
      refine V_bipush (v := (-2)) 26 dX8_held_24 rfl (by decide) ?_
      refine V_iret dX8_held_26 rfl rfl ⟨_, rfl, ?_⟩ (by first | exact Nat.le_refl _ | decide | omega) (by first | exact Nat.le_refl _ | decide | omega)
      exact ⟨rfl, rfl⟩
    · skip
      exfalso; grind
theorem ct_X8_room_ok {na nh b r p : Nat} (hS : SHR h) (ea : qg_i h 33 0 1 = nI na) (hna : na ≤ 24) (hp : WI (qg_i h 35 0) na) (e : qg_i h 33 0 10 = nI nh) (hnh : nh ≤ 200) (hH : WH h na nh) (hb : b < na) (hr : r < 4) (hpp : p < 100) (enow : qg_i h 33 0 0 / 1000 = nI p) : qM yX8_room cX8_room 3 ((some .int)) 3 74 0 0 [.inr (.inr (some (33, 0))), .inl (nI b), .inl (nI r)] h (pI fun x h' => x = (if 0 < m_room h na nh p r b then m_room h na nh p r b else 0).toInt32 ∧ h' = h) := by
  refine qM.of (plainFor_of_name (by decide)) (Nat.le_of_ble_eq_true rfl) ?_
  refine V_aload_n 1 dX8_room_0 rfl rfl ?_
  refine V_iload_n 2 dX8_room_1 rfl rfl ?_
  refine V_cV1i 5 (ct_isAcc_ok ea hna hb) cs_X8_11 rfl rfl (by decide) dX8_room_2 rfl ⟨Nat.le_of_ble_eq_true rfl, Nat.le_of_ble_eq_true rfl⟩ (Nat.le_of_ble_eq_true rfl) ⟨Nat.le_of_ble_eq_true rfl, Nat.le_of_ble_eq_true rfl⟩ (fun x h' hx hle => ?_)
  obtain ⟨rfl, rfl⟩ := hx
  refine V_if_eq 29 8 dX8_room_5 rfl rfl (fun c_5 => ?_) (fun c_5 => ?_)
  · skip
    exact absurd c_5 (by decide)
  · skip
    refine V_iload_n 9 dX8_room_8 rfl rfl ?_
    refine V_cS1i 12 (ct_isRes_ok hr) cs_X8_28 dX8_room_9 rfl ⟨Nat.le_of_ble_eq_true rfl, Nat.le_of_ble_eq_true rfl⟩ (Nat.le_of_ble_eq_true rfl) ⟨Nat.le_of_ble_eq_true rfl, Nat.le_of_ble_eq_true rfl⟩ (fun x h' hx hle => ?_)
    obtain ⟨rfl, rfl⟩ := hx
    refine V_if_eq 29 15 dX8_room_12 rfl rfl (fun c_12 => ?_) (fun c_12 => ?_)
    · skip
      exact absurd c_12 (by decide)
    · skip
      refine V_lconst (v := 0) 16 dX8_room_15 rfl (by decide) ?_
      refine V_aload_n 17 dX8_room_16 rfl rfl ?_
      refine V_iload_n 18 dX8_room_17 rfl rfl ?_
      refine V_iload_n 19 dX8_room_18 rfl rfl ?_
      refine V_cV2l 22 (ct_X8_roomOf hS ea hna hp e hnh hH hr hpp enow hb) cs_X8_115 rfl rfl (by decide) dX8_room_19 rfl ⟨Nat.le_of_ble_eq_true rfl, Nat.le_of_ble_eq_true rfl⟩ (Nat.le_of_ble_eq_true rfl) ⟨Nat.le_of_ble_eq_true rfl, Nat.le_of_ble_eq_true rfl⟩ (fun x h' hx hle => ?_)
      obtain ⟨rfl, rfl⟩ := hx
      refine V_cS2l 25 (ct_J9_max_f86c9 _ _ _) cs_X8_119 dX8_room_22 rfl ⟨Nat.le_of_ble_eq_true rfl, Nat.le_of_ble_eq_true rfl⟩ (Nat.le_of_ble_eq_true rfl) ⟨Nat.le_of_ble_eq_true rfl, Nat.le_of_ble_eq_true rfl⟩ (fun x h' hx hle => ?_)
      obtain ⟨rfl, rfl⟩ := hx
      refine V_l2i 26 dX8_room_25 rfl ?_
      refine V_goto 31 dX8_room_26 rfl ?_
      refine V_iret dX8_room_31 rfl rfl ⟨_, rfl, ?_⟩ (by first | exact Nat.le_refl _ | decide | omega) (by first | exact Nat.le_refl _ | decide | omega)
      exact ⟨rfl, rfl⟩
theorem ct_X8_room_bad {a r : Int32} (hbad : ¬ ((0 ≤ a ∧ a < qg_i h 33 0 1) ∧ (0 ≤ r ∧ r < 4))) : qM yX8_room cX8_room 3 ((some .int)) 3 74 0 0 [.inr (.inr (some (33, 0))), .inl a, .inl r] h (pI fun x h' => x = -2 ∧ h' = h) := by
  refine qM.of (plainFor_of_name (by decide)) (Nat.le_of_ble_eq_true rfl) ?_
  refine V_aload_n 1 dX8_room_0 rfl rfl ?_
  refine V_iload_n 2 dX8_room_1 rfl rfl ?_
  refine V_cV1i 5 (ct_X8_isAccount _ _) cs_X8_11 rfl rfl (by decide) dX8_room_2 rfl ⟨Nat.le_of_ble_eq_true rfl, Nat.le_of_ble_eq_true rfl⟩ (Nat.le_of_ble_eq_true rfl) ⟨Nat.le_of_ble_eq_true rfl, Nat.le_of_ble_eq_true rfl⟩ (fun x h' hx hle => ?_)
  obtain ⟨rfl, rfl⟩ := hx
  refine V_if_eq 29 8 dX8_room_5 rfl rfl (fun c_5 => ?_) (fun c_5 => ?_)
  · skip
    refine V_bipush (v := (-2)) 31 dX8_room_29 rfl (by decide) ?_
    refine V_iret dX8_room_31 rfl rfl ⟨_, rfl, ?_⟩ (by first | exact Nat.le_refl _ | decide | omega) (by first | exact Nat.le_refl _ | decide | omega)
    exact ⟨rfl, rfl⟩
  · skip
    refine V_iload_n 9 dX8_room_8 rfl rfl ?_
    refine V_cS1i 12 (ct_X8_isResource _ _) cs_X8_28 dX8_room_9 rfl ⟨Nat.le_of_ble_eq_true rfl, Nat.le_of_ble_eq_true rfl⟩ (Nat.le_of_ble_eq_true rfl) ⟨Nat.le_of_ble_eq_true rfl, Nat.le_of_ble_eq_true rfl⟩ (fun x h' hx hle => ?_)
    obtain ⟨rfl, rfl⟩ := hx
    refine V_if_eq 29 15 dX8_room_12 rfl rfl (fun c_12 => ?_) (fun c_12 => ?_)
    · skip
      refine V_bipush (v := (-2)) 31 dX8_room_29 rfl (by decide) ?_
      refine V_iret dX8_room_31 rfl rfl ⟨_, rfl, ?_⟩ (by first | exact Nat.le_refl _ | decide | omega) (by first | exact Nat.le_refl _ | decide | omega)
      exact ⟨rfl, rfl⟩
    · skip
      exfalso; grind
theorem ct_X8_limit_ok {na b r : Nat} {l : Int32} (hS : SHR h) (ea : qg_i h 33 0 1 = nI na) (hna : na ≤ 24) (hb : b < na) (hr : r < 4) (hl : -1 ≤ l ∧ l ≤ 1000000000) : qM yX8_limit cX8_limit 4 ((some .int)) 1 21 0 0 [.inr (.inr (some (33, 0))), .inl (nI b), .inl (nI r), .inl l] h (pI fun x h' => x = 0 ∧ h' = qs_i h 36 0 (4 * b + r) l) := by
  refine qM.of (plainFor_of_name (by decide)) (Nat.le_of_ble_eq_true rfl) ?_
  refine V_aload_n 1 dX8_limit_0 rfl rfl ?_
  refine V_iload_n 2 dX8_limit_1 rfl rfl ?_
  refine V_cV1i 5 (ct_isAcc_ok ea hna hb) cs_X8_11 rfl rfl (by decide) dX8_limit_2 rfl ⟨Nat.le_of_ble_eq_true rfl, Nat.le_of_ble_eq_true rfl⟩ (Nat.le_of_ble_eq_true rfl) ⟨Nat.le_of_ble_eq_true rfl, Nat.le_of_ble_eq_true rfl⟩ (fun x h' hx hle => ?_)
  obtain ⟨rfl, rfl⟩ := hx
  refine V_if_eq 26 8 dX8_limit_5 rfl rfl (fun c_5 => ?_) (fun c_5 => ?_)
  · skip
    exact absurd c_5 (by decide)
  · skip
    refine V_iload_n 9 dX8_limit_8 rfl rfl ?_
    refine V_cS1i 12 (ct_isRes_ok hr) cs_X8_28 dX8_limit_9 rfl ⟨Nat.le_of_ble_eq_true rfl, Nat.le_of_ble_eq_true rfl⟩ (Nat.le_of_ble_eq_true rfl) ⟨Nat.le_of_ble_eq_true rfl, Nat.le_of_ble_eq_true rfl⟩ (fun x h' hx hle => ?_)
    obtain ⟨rfl, rfl⟩ := hx
    refine V_if_eq 26 15 dX8_limit_12 rfl rfl (fun c_12 => ?_) (fun c_12 => ?_)
    · skip
      exact absurd c_12 (by decide)
    · skip
      refine V_iload_n 16 dX8_limit_15 rfl rfl ?_
      refine V_iconst (v := (-1)) 17 dX8_limit_16 rfl (by decide) ?_
      refine V_icmp_lt 26 20 dX8_limit_17 rfl rfl (fun c_17 => ?_) (fun c_17 => ?_)
      · skip
        grind
      · skip
        refine V_iload_n 21 dX8_limit_20 rfl rfl ?_
        refine V_ldc (v := 1000000000) 23 dX8_limit_21 rfl wc_X8_31 ?_
        refine V_icmp_le 29 26 dX8_limit_23 rfl rfl (fun c_23 => ?_) (fun c_23 => ?_)
        · skip
          refine V_aload_n 30 dX8_limit_29 rfl rfl ?_
          refine V_getR 33 8 4 fl_X8_21 dX8_limit_30 rfl rfl (by decide) (Or.inr ⟨_, rfl⟩) (by decide) (sr_4 hS) ?_
          refine V_iconst (v := 4) 34 dX8_limit_33 rfl (by decide) ?_
          refine V_iload_n 35 dX8_limit_34 rfl rfl ?_
          refine V_imul 36 dX8_limit_35 rfl ?_
          refine V_iload_n 37 dX8_limit_36 rfl rfl ?_
          refine V_iadd 38 dX8_limit_37 rfl ?_
          refine V_iload_n 39 dX8_limit_38 rfl rfl ?_
          refine V_iastN 40 (4 * b + r) dX8_limit_39 rfl rfl (by decide) (by rw [show (4 : Int32) = nI 4 from rfl, pk_mul, nI_add]) (show _ < 96 by omega) (by decide) ?_
          refine V_iconst (v := 0) 41 dX8_limit_40 rfl (by decide) ?_
          refine V_iret dX8_limit_41 rfl rfl ⟨_, rfl, ?_⟩ (by first | exact Nat.le_refl _ | decide | omega) (by first | exact Nat.le_refl _ | decide | omega)
          exact ⟨rfl, rfl⟩
        · skip
          grind
theorem ct_X8_limit_bad {a r l : Int32} (hbad : ¬ ((0 ≤ a ∧ a < qg_i h 33 0 1) ∧ (0 ≤ r ∧ r < 4) ∧ (-1 ≤ l ∧ l ≤ 1000000000))) : qM yX8_limit cX8_limit 4 ((some .int)) 1 21 0 0 [.inr (.inr (some (33, 0))), .inl a, .inl r, .inl l] h (pI fun x h' => x = -2 ∧ h' = h) := by
  refine qM.of (plainFor_of_name (by decide)) (Nat.le_of_ble_eq_true rfl) ?_
  refine V_aload_n 1 dX8_limit_0 rfl rfl ?_
  refine V_iload_n 2 dX8_limit_1 rfl rfl ?_
  refine V_cV1i 5 (ct_X8_isAccount _ _) cs_X8_11 rfl rfl (by decide) dX8_limit_2 rfl ⟨Nat.le_of_ble_eq_true rfl, Nat.le_of_ble_eq_true rfl⟩ (Nat.le_of_ble_eq_true rfl) ⟨Nat.le_of_ble_eq_true rfl, Nat.le_of_ble_eq_true rfl⟩ (fun x h' hx hle => ?_)
  obtain ⟨rfl, rfl⟩ := hx
  refine V_if_eq 26 8 dX8_limit_5 rfl rfl (fun c_5 => ?_) (fun c_5 => ?_)
  · skip
    refine V_bipush (v := (-2)) 28 dX8_limit_26 rfl (by decide) ?_
    refine V_iret dX8_limit_28 rfl rfl ⟨_, rfl, ?_⟩ (by first | exact Nat.le_refl _ | decide | omega) (by first | exact Nat.le_refl _ | decide | omega)
    exact ⟨rfl, rfl⟩
  · skip
    refine V_iload_n 9 dX8_limit_8 rfl rfl ?_
    refine V_cS1i 12 (ct_X8_isResource _ _) cs_X8_28 dX8_limit_9 rfl ⟨Nat.le_of_ble_eq_true rfl, Nat.le_of_ble_eq_true rfl⟩ (Nat.le_of_ble_eq_true rfl) ⟨Nat.le_of_ble_eq_true rfl, Nat.le_of_ble_eq_true rfl⟩ (fun x h' hx hle => ?_)
    obtain ⟨rfl, rfl⟩ := hx
    refine V_if_eq 26 15 dX8_limit_12 rfl rfl (fun c_12 => ?_) (fun c_12 => ?_)
    · skip
      refine V_bipush (v := (-2)) 28 dX8_limit_26 rfl (by decide) ?_
      refine V_iret dX8_limit_28 rfl rfl ⟨_, rfl, ?_⟩ (by first | exact Nat.le_refl _ | decide | omega) (by first | exact Nat.le_refl _ | decide | omega)
      exact ⟨rfl, rfl⟩
    · skip
      refine V_iload_n 16 dX8_limit_15 rfl rfl ?_
      refine V_iconst (v := (-1)) 17 dX8_limit_16 rfl (by decide) ?_
      refine V_icmp_lt 26 20 dX8_limit_17 rfl rfl (fun c_17 => ?_) (fun c_17 => ?_)
      · skip
        refine V_bipush (v := (-2)) 28 dX8_limit_26 rfl (by decide) ?_
        refine V_iret dX8_limit_28 rfl rfl ⟨_, rfl, ?_⟩ (by first | exact Nat.le_refl _ | decide | omega) (by first | exact Nat.le_refl _ | decide | omega)
        exact ⟨rfl, rfl⟩
      · skip
        refine V_iload_n 21 dX8_limit_20 rfl rfl ?_
        refine V_ldc (v := 1000000000) 23 dX8_limit_21 rfl wc_X8_31 ?_
        refine V_icmp_le 29 26 dX8_limit_23 rfl rfl (fun c_23 => ?_) (fun c_23 => ?_)
        · skip
          exfalso; grind
        · skip
          refine V_bipush (v := (-2)) 28 dX8_limit_26 rfl (by decide) ?_
          refine V_iret dX8_limit_28 rfl rfl ⟨_, rfl, ?_⟩ (by first | exact Nat.le_refl _ | decide | omega) (by first | exact Nat.le_refl _ | decide | omega)
          exact ⟨rfl, rfl⟩
/-- the limits of a new account -/
def lim4 (h : qH) (na : Nat) : Nat → qH
  | 0 => h
  | k + 1 => qs_i (lim4 h na k) 36 0 (4 * na + k) (-1)
theorem lim4_n {na : Nat} : ∀ k, qg_n (lim4 h na k) = qg_n h ∧ qg_r (lim4 h na k) = qg_r h ∧ qg_l (lim4 h na k) = qg_l h ∧ ∀ r, r ≠ 36 → qg_i (lim4 h na k) r = qg_i h r
  | 0 => ⟨rfl, rfl, rfl, fun _ _ => rfl⟩
  | k + 1 => by
    obtain ⟨a1, a2, a3, a4⟩ := lim4_n (na := na) k
    refine ⟨a1, a2, a3, fun r hr => ?_⟩
    rw [← a4 r hr]
    funext i j
    simp [lim4, qii, hr]
theorem lp_X8_account {na : Nat} (hS : SHR h) (ea : qg_i h 33 0 1 = nI na) (hna : na < 24) {n0 : Nat → Nat} {Post : Option qV → qH → Prop} (hP : Post (some (.inl (nI na))) (qs_i (lim4 h na 4) 33 0 1 (nI (na + 1)))) :
    ∀ (m i : Nat), i + m = 4 → Vw yX8_account cX8_account 4 ((some .int)) (qrm 1 21 0 0) 0 0 n0 Post 67 [(0, .inr (.inr (some (33, 0)))), (3, .inl (nI i))] [] (lim4 h na i) 0 0 := by
  intro m
  induction m with
  | zero =>
    intro i hi
    have hi : i = 4 := by omega
    subst hi
    have e1 : qg_i (lim4 h na 4) 33 0 1 = nI na := by rw [(lim4_n 4).2.2.2 33 (by decide)]; exact ea
    refine V_iload_n 68 dX8_account_67 rfl rfl ?_
    refine V_iconst (v := 4) 69 dX8_account_68 rfl (by decide) ?_
    refine V_icmp_ge 92 72 dX8_account_69 rfl rfl (fun c_69 => ?_) (fun c_69 => ?_)
    · skip
      refine V_aload_n 93 dX8_account_92 rfl rfl ?_
      refine V_dup 94 dX8_account_93 rfl ?_
      refine V_geti 97 8 1 fl_X8_3 dX8_account_94 rfl rfl (by decide) rfl (by decide) ?_
      rw [e1]
      refine V_iconst (v := 1) 98 dX8_account_97 rfl (by decide) ?_
      refine V_iadd 99 dX8_account_98 rfl ?_
      rw [show nI na + 1 = nI (na + 1) from nI_1 na]
      refine V_puti 102 8 1 fl_X8_3 dX8_account_99 rfl rfl (by decide) rfl (by decide) (Or.inl rfl) ?_
      refine V_aload_n 103 dX8_account_102 rfl rfl ?_
      refine V_geti 106 8 1 fl_X8_3 dX8_account_103 rfl rfl (by decide) rfl (by decide) ?_
      rw [(show qg_i (qs_i (lim4 h na 4) 33 0 1 (nI (na + 1))) 33 0 1 = nI (na + 1) by simp [qii])]
      refine V_iconst (v := 1) 107 dX8_account_106 rfl (by decide) ?_
      refine V_isub 108 dX8_account_107 rfl ?_
      rw [nI_pred]
      refine V_iret dX8_account_108 rfl rfl ?_ (by first | exact Nat.le_refl _ | decide | omega) (by first | exact Nat.le_refl _ | decide | omega)
      exact hP
    · skip
      exact absurd (by decide) c_69
  | succ m ih =>
    intro i hi
    have e1 : qg_i (lim4 h na i) 33 0 1 = nI na := by rw [(lim4_n i).2.2.2 33 (by decide)]; exact ea
    have hS2 : SHR (lim4 h na i) := fun k => by rw [(lim4_n i).2.1]; exact hS k
    refine V_iload_n 68 dX8_account_67 rfl rfl ?_
    refine V_iconst (v := 4) 69 dX8_account_68 rfl (by decide) ?_
    refine V_icmp_ge 92 72 dX8_account_69 rfl rfl (fun c_69 => ?_) (fun c_69 => ?_)
    · skip
      exact absurd c_69 (nI_ge (b := 4) (by omega) (by omega))
    · skip
      refine V_aload_n 73 dX8_account_72 rfl rfl ?_
      refine V_getR 76 8 4 fl_X8_21 dX8_account_73 rfl rfl (by decide) (Or.inr ⟨_, rfl⟩) (by decide) (sr_4 hS2) ?_
      refine V_iconst (v := 4) 77 dX8_account_76 rfl (by decide) ?_
      refine V_aload_n 78 dX8_account_77 rfl rfl ?_
      refine V_geti 81 8 1 fl_X8_3 dX8_account_78 rfl rfl (by decide) rfl (by decide) ?_
      rw [e1]
      refine V_imul 82 dX8_account_81 rfl ?_
      refine V_iload_n 83 dX8_account_82 rfl rfl ?_
      refine V_iadd 84 dX8_account_83 rfl ?_
      refine V_iconst (v := (-1)) 85 dX8_account_84 rfl (by decide) ?_
      refine V_iastN 86 (4 * na + i) dX8_account_85 rfl rfl (by decide) (by rw [show (4 : Int32) = nI 4 from rfl, pk_mul, nI_add]) (show _ < 96 by omega) (by decide) ?_
      refine V_iincN 89 dX8_account_86 rfl rfl (by decide) ?_
      refine V_goto 67 dX8_account_89 rfl ?_
      exact V_at (ih (i + 1) (by omega)) ⟨rfl, rfl, trivial⟩
theorem ct_X8_account_ok {na t : Nat} {inn : Int32} (hS : SHR h) (ea : qg_i h 33 0 1 = nI na) (hna : na < 24) (ht : t < 6) (hin : inn = -1 ∨ ∃ b, b < na ∧ inn = nI b ∧ qg_i h 34 0 b = nI t) : qM yX8_account cX8_account 4 ((some .int)) 1 21 0 0 [.inr (.inr (some (33, 0))), .inl (nI t), .inl inn] h (pI fun x h' => x = nI na ∧ h' = qs_i (lim4 (qs_i (qs_i h 34 0 na (nI t)) 35 0 na inn) na 4) 33 0 1 (nI (na + 1))) := by
  refine qM.of (plainFor_of_name (by decide)) (Nat.le_of_ble_eq_true rfl) ?_
  refine V_iload_n 1 dX8_account_0 rfl rfl ?_
  refine V_cS1i 4 (ct_isTen_ok ht) cs_X8_7 dX8_account_1 rfl ⟨Nat.le_of_ble_eq_true rfl, Nat.le_of_ble_eq_true rfl⟩ (Nat.le_of_ble_eq_true rfl) ⟨Nat.le_of_ble_eq_true rfl, Nat.le_of_ble_eq_true rfl⟩ (fun x h' hx hle => ?_)
  obtain ⟨rfl, rfl⟩ := hx
  refine V_if_eq 30 7 dX8_account_4 rfl rfl (fun c_4 => ?_) (fun c_4 => ?_)
  · skip
    exact absurd c_4 (by decide)
  · skip
    refine V_iload_n 8 dX8_account_7 rfl rfl ?_
    refine V_iconst (v := (-1)) 9 dX8_account_8 rfl (by decide) ?_
    refine V_icmp_eq 33 12 dX8_account_9 rfl rfl (fun c_9 => ?_) (fun c_9 => ?_)
    · skip
      refine V_aload_n 34 dX8_account_33 rfl rfl ?_
      refine V_geti 37 8 1 fl_X8_3 dX8_account_34 rfl rfl (by decide) rfl (by decide) ?_
      rw [ea]
      refine V_bipush (v := 24) 39 dX8_account_37 rfl (by decide) ?_
      refine V_icmp_ne 45 42 dX8_account_39 rfl rfl (fun c_39 => ?_) (fun c_39 => ?_)
      · skip
        refine V_aload_n 46 dX8_account_45 rfl rfl ?_
        refine V_getR 49 8 2 fl_X8_14 dX8_account_46 rfl rfl (by decide) (Or.inr ⟨_, rfl⟩) (by decide) (sr_2 hS) ?_
        refine V_aload_n 50 dX8_account_49 rfl rfl ?_
        refine V_geti 53 8 1 fl_X8_3 dX8_account_50 rfl rfl (by decide) rfl (by decide) ?_
        rw [ea]
        refine V_iload_n 54 dX8_account_53 rfl rfl ?_
        refine V_iastN 55 (_) dX8_account_54 rfl rfl (by decide) rfl (show _ < 24 by omega) (by decide) ?_
        refine V_aload_n 56 dX8_account_55 rfl rfl ?_
        refine V_getR 59 8 3 fl_X8_18 dX8_account_56 rfl rfl (by decide) (Or.inr ⟨_, rfl⟩) (by decide) (sr_3 hS) ?_
        refine V_aload_n 60 dX8_account_59 rfl rfl ?_
        refine V_geti 63 8 1 fl_X8_3 dX8_account_60 rfl rfl (by decide) rfl (by decide) ?_
        rw [(show qg_i (qs_i _ 34 0 na (nI t)) 33 0 1 = nI na from ea)]
        refine V_iload_n 64 dX8_account_63 rfl rfl ?_
        refine V_iastN 65 (_) dX8_account_64 rfl rfl (by decide) rfl (show _ < 24 by omega) (by decide) ?_
        refine V_iconst (v := 0) 66 dX8_account_65 rfl (by decide) ?_
        refine V_istore_n 67 dX8_account_66 rfl (by decide) ?_
        exact V_at (lp_X8_account (h := qs_i (qs_i _ 34 0 na (nI t)) 35 0 na _) hS ea hna ⟨_, rfl, rfl, rfl⟩ 4 0 (by omega)) ⟨rfl, rfl, trivial⟩
      · skip
        exact absurd (show nI na = nI 24 from c_39) (fun q => by have := (nI_eq (by omega) (by omega)).mp q; omega)
    · skip
      obtain ⟨b, hb, rfl, et⟩ := hin.resolve_left c_9
      refine V_aload_n 13 dX8_account_12 rfl rfl ?_
      refine V_iload_n 14 dX8_account_13 rfl rfl ?_
      refine V_cV1i 17 (ct_isAcc_ok ea (by omega) hb) cs_X8_11 rfl rfl (by decide) dX8_account_14 rfl ⟨Nat.le_of_ble_eq_true rfl, Nat.le_of_ble_eq_true rfl⟩ (Nat.le_of_ble_eq_true rfl) ⟨Nat.le_of_ble_eq_true rfl, Nat.le_of_ble_eq_true rfl⟩ (fun x h' hx hle => ?_)
      obtain ⟨rfl, rfl⟩ := hx
      refine V_if_eq 30 20 dX8_account_17 rfl rfl (fun c_17 => ?_) (fun c_17 => ?_)
      · skip
        exact absurd c_17 (by decide)
      · skip
        refine V_aload_n 21 dX8_account_20 rfl rfl ?_
        refine V_getR 24 8 2 fl_X8_14 dX8_account_21 rfl rfl (by decide) (Or.inr ⟨_, rfl⟩) (by decide) (sr_2 hS) ?_
        refine V_iload_n 25 dX8_account_24 rfl rfl ?_
        refine V_ialdN 26 (_) dX8_account_25 rfl rfl (by decide) rfl (show _ < 24 by omega) (by decide) ?_
        rw [et]
        refine V_iload_n 27 dX8_account_26 rfl rfl ?_
        refine V_icmp_eq 33 30 dX8_account_27 rfl rfl (fun c_27 => ?_) (fun c_27 => ?_)
        · skip
          refine V_aload_n 34 dX8_account_33 rfl rfl ?_
          refine V_geti 37 8 1 fl_X8_3 dX8_account_34 rfl rfl (by decide) rfl (by decide) ?_
          rw [ea]
          refine V_bipush (v := 24) 39 dX8_account_37 rfl (by decide) ?_
          refine V_icmp_ne 45 42 dX8_account_39 rfl rfl (fun c_39 => ?_) (fun c_39 => ?_)
          · skip
            refine V_aload_n 46 dX8_account_45 rfl rfl ?_
            refine V_getR 49 8 2 fl_X8_14 dX8_account_46 rfl rfl (by decide) (Or.inr ⟨_, rfl⟩) (by decide) (sr_2 hS) ?_
            refine V_aload_n 50 dX8_account_49 rfl rfl ?_
            refine V_geti 53 8 1 fl_X8_3 dX8_account_50 rfl rfl (by decide) rfl (by decide) ?_
            rw [ea]
            refine V_iload_n 54 dX8_account_53 rfl rfl ?_
            refine V_iastN 55 (_) dX8_account_54 rfl rfl (by decide) rfl (show _ < 24 by omega) (by decide) ?_
            refine V_aload_n 56 dX8_account_55 rfl rfl ?_
            refine V_getR 59 8 3 fl_X8_18 dX8_account_56 rfl rfl (by decide) (Or.inr ⟨_, rfl⟩) (by decide) (sr_3 hS) ?_
            refine V_aload_n 60 dX8_account_59 rfl rfl ?_
            refine V_geti 63 8 1 fl_X8_3 dX8_account_60 rfl rfl (by decide) rfl (by decide) ?_
            rw [(show qg_i (qs_i _ 34 0 na (nI t)) 33 0 1 = nI na from ea)]
            refine V_iload_n 64 dX8_account_63 rfl rfl ?_
            refine V_iastN 65 (_) dX8_account_64 rfl rfl (by decide) rfl (show _ < 24 by omega) (by decide) ?_
            refine V_iconst (v := 0) 66 dX8_account_65 rfl (by decide) ?_
            refine V_istore_n 67 dX8_account_66 rfl (by decide) ?_
            exact V_at (lp_X8_account (h := qs_i (qs_i _ 34 0 na (nI t)) 35 0 na _) hS ea hna ⟨_, rfl, rfl, rfl⟩ 4 0 (by omega)) ⟨rfl, rfl, trivial⟩
          · skip
            exact absurd (show nI na = nI 24 from c_39) (fun q => by have := (nI_eq (by omega) (by omega)).mp q; omega)
        · skip
          exact absurd rfl c_27
theorem ct_X8_account_full {t : Nat} {inn : Int32} (hS : SHR h) (ea : qg_i h 33 0 1 = nI 24) (ht : t < 6) (hin : inn = -1 ∨ ∃ b, b < 24 ∧ inn = nI b ∧ qg_i h 34 0 b = nI t) : qM yX8_account cX8_account 4 ((some .int)) 1 21 0 0 [.inr (.inr (some (33, 0))), .inl (nI t), .inl inn] h (pI fun x h' => x = -3 ∧ h' = h) := by
  refine qM.of (plainFor_of_name (by decide)) (Nat.le_of_ble_eq_true rfl) ?_
  refine V_iload_n 1 dX8_account_0 rfl rfl ?_
  refine V_cS1i 4 (ct_isTen_ok ht) cs_X8_7 dX8_account_1 rfl ⟨Nat.le_of_ble_eq_true rfl, Nat.le_of_ble_eq_true rfl⟩ (Nat.le_of_ble_eq_true rfl) ⟨Nat.le_of_ble_eq_true rfl, Nat.le_of_ble_eq_true rfl⟩ (fun x h' hx hle => ?_)
  obtain ⟨rfl, rfl⟩ := hx
  refine V_if_eq 30 7 dX8_account_4 rfl rfl (fun c_4 => ?_) (fun c_4 => ?_)
  · skip
    exact absurd c_4 (by decide)
  · skip
    refine V_iload_n 8 dX8_account_7 rfl rfl ?_
    refine V_iconst (v := (-1)) 9 dX8_account_8 rfl (by decide) ?_
    refine V_icmp_eq 33 12 dX8_account_9 rfl rfl (fun c_9 => ?_) (fun c_9 => ?_)
    · skip
      refine V_aload_n 34 dX8_account_33 rfl rfl ?_
      refine V_geti 37 8 1 fl_X8_3 dX8_account_34 rfl rfl (by decide) rfl (by decide) ?_
      rw [ea]
      refine V_bipush (v := 24) 39 dX8_account_37 rfl (by decide) ?_
      refine V_icmp_ne 45 42 dX8_account_39 rfl rfl (fun c_39 => ?_) (fun c_39 => ?_)
      · skip
        exact absurd rfl c_39
      · skip
        refine V_bipush (v := (-3)) 44 dX8_account_42 rfl (by decide) ?_
        refine V_iret dX8_account_44 rfl rfl ⟨_, rfl, ?_⟩ (by first | exact Nat.le_refl _ | decide | omega) (by first | exact Nat.le_refl _ | decide | omega)
        exact ⟨rfl, rfl⟩
    · skip
      obtain ⟨b, hb, rfl, et⟩ := hin.resolve_left c_9
      refine V_aload_n 13 dX8_account_12 rfl rfl ?_
      refine V_iload_n 14 dX8_account_13 rfl rfl ?_
      refine V_cV1i 17 (ct_isAcc_ok ea (by omega) hb) cs_X8_11 rfl rfl (by decide) dX8_account_14 rfl ⟨Nat.le_of_ble_eq_true rfl, Nat.le_of_ble_eq_true rfl⟩ (Nat.le_of_ble_eq_true rfl) ⟨Nat.le_of_ble_eq_true rfl, Nat.le_of_ble_eq_true rfl⟩ (fun x h' hx hle => ?_)
      obtain ⟨rfl, rfl⟩ := hx
      refine V_if_eq 30 20 dX8_account_17 rfl rfl (fun c_17 => ?_) (fun c_17 => ?_)
      · skip
        exact absurd c_17 (by decide)
      · skip
        refine V_aload_n 21 dX8_account_20 rfl rfl ?_
        refine V_getR 24 8 2 fl_X8_14 dX8_account_21 rfl rfl (by decide) (Or.inr ⟨_, rfl⟩) (by decide) (sr_2 hS) ?_
        refine V_iload_n 25 dX8_account_24 rfl rfl ?_
        refine V_ialdN 26 (_) dX8_account_25 rfl rfl (by decide) rfl (show _ < 24 by omega) (by decide) ?_
        rw [et]
        refine V_iload_n 27 dX8_account_26 rfl rfl ?_
        refine V_icmp_eq 33 30 dX8_account_27 rfl rfl (fun c_27 => ?_) (fun c_27 => ?_)
        · skip
          refine V_aload_n 34 dX8_account_33 rfl rfl ?_
          refine V_geti 37 8 1 fl_X8_3 dX8_account_34 rfl rfl (by decide) rfl (by decide) ?_
          rw [ea]
          refine V_bipush (v := 24) 39 dX8_account_37 rfl (by decide) ?_
          refine V_icmp_ne 45 42 dX8_account_39 rfl rfl (fun c_39 => ?_) (fun c_39 => ?_)
          · skip
            exact absurd rfl c_39
          · skip
            refine V_bipush (v := (-3)) 44 dX8_account_42 rfl (by decide) ?_
            refine V_iret dX8_account_44 rfl rfl ⟨_, rfl, ?_⟩ (by first | exact Nat.le_refl _ | decide | omega) (by first | exact Nat.le_refl _ | decide | omega)
            exact ⟨rfl, rfl⟩
        · skip
          exact absurd rfl c_27
theorem ct_X8_account_bad {na : Nat} {t inn : Int32} (hS : SHR h) (ea : qg_i h 33 0 1 = nI na) (hna : na ≤ 24) (hbad : ¬ ((0 ≤ t ∧ t < 6) ∧ (inn = -1 ∨ ∃ b, b < na ∧ inn = nI b ∧ qg_i h 34 0 b = t))) : qM yX8_account cX8_account 4 ((some .int)) 1 21 0 0 [.inr (.inr (some (33, 0))), .inl t, .inl inn] h (pI fun x h' => x = -2 ∧ h' = h) := by
  refine qM.of (plainFor_of_name (by decide)) (Nat.le_of_ble_eq_true rfl) ?_
  refine V_iload_n 1 dX8_account_0 rfl rfl ?_
  refine V_cS1i 4 (ct_X8_isTenant _ _) cs_X8_7 dX8_account_1 rfl ⟨Nat.le_of_ble_eq_true rfl, Nat.le_of_ble_eq_true rfl⟩ (Nat.le_of_ble_eq_true rfl) ⟨Nat.le_of_ble_eq_true rfl, Nat.le_of_ble_eq_true rfl⟩ (fun x h' hx hle => ?_)
  obtain ⟨rfl, rfl⟩ := hx
  refine V_if_eq 30 7 dX8_account_4 rfl rfl (fun c_4 => ?_) (fun c_4 => ?_)
  · skip
    refine V_bipush (v := (-2)) 32 dX8_account_30 rfl (by decide) ?_
    refine V_iret dX8_account_32 rfl rfl ⟨_, rfl, ?_⟩ (by first | exact Nat.le_refl _ | decide | omega) (by first | exact Nat.le_refl _ | decide | omega)
    exact ⟨rfl, rfl⟩
  · skip
    refine V_iload_n 8 dX8_account_7 rfl rfl ?_
    refine V_iconst (v := (-1)) 9 dX8_account_8 rfl (by decide) ?_
    refine V_icmp_eq 33 12 dX8_account_9 rfl rfl (fun c_9 => ?_) (fun c_9 => ?_)
    · skip
      exfalso; grind
    · skip
      refine V_aload_n 13 dX8_account_12 rfl rfl ?_
      refine V_iload_n 14 dX8_account_13 rfl rfl ?_
      refine V_cV1i 17 (ct_X8_isAccount _ _) cs_X8_11 rfl rfl (by decide) dX8_account_14 rfl ⟨Nat.le_of_ble_eq_true rfl, Nat.le_of_ble_eq_true rfl⟩ (Nat.le_of_ble_eq_true rfl) ⟨Nat.le_of_ble_eq_true rfl, Nat.le_of_ble_eq_true rfl⟩ (fun x h' hx hle => ?_)
      obtain ⟨rfl, rfl⟩ := hx
      refine V_if_eq 30 20 dX8_account_17 rfl rfl (fun c_17 => ?_) (fun c_17 => ?_)
      · skip
        refine V_bipush (v := (-2)) 32 dX8_account_30 rfl (by decide) ?_
        refine V_iret dX8_account_32 rfl rfl ⟨_, rfl, ?_⟩ (by first | exact Nat.le_refl _ | decide | omega) (by first | exact Nat.le_refl _ | decide | omega)
        exact ⟨rfl, rfl⟩
      · skip
        obtain ⟨b, hb, rfl⟩ := acc_of ea hna c_17
        refine V_aload_n 21 dX8_account_20 rfl rfl ?_
        refine V_getR 24 8 2 fl_X8_14 dX8_account_21 rfl rfl (by decide) (Or.inr ⟨_, rfl⟩) (by decide) (sr_2 hS) ?_
        refine V_iload_n 25 dX8_account_24 rfl rfl ?_
        refine V_ialdN 26 (_) dX8_account_25 rfl rfl (by decide) rfl (show _ < 24 by omega) (by decide) ?_
        refine V_iload_n 27 dX8_account_26 rfl rfl ?_
        refine V_icmp_eq 33 30 dX8_account_27 rfl rfl (fun c_27 => ?_) (fun c_27 => ?_)
        · skip
          exfalso; grind
        · skip
          refine V_bipush (v := (-2)) 32 dX8_account_30 rfl (by decide) ?_
          refine V_iret dX8_account_32 rfl rfl ⟨_, rfl, ?_⟩ (by first | exact Nat.le_refl _ | decide | omega) (by first | exact Nat.le_refl _ | decide | omega)
          exact ⟨rfl, rfl⟩
theorem ct_X8_drop_ok {nh a : Nat} (hS : SHR h) (e : qg_i h 33 0 10 = nI nh) (hnh : nh ≤ 200) (ha : a < nh) (ho : m_open h a = true) : qM yX8_drop cX8_drop 2 ((some .int)) 1 21 0 0 [.inr (.inr (some (33, 0))), .inl (nI a)] h (pI fun x h' => x = qg_i h 43 0 a ∧ h' = qs_i h 45 0 a 1) := by
  refine qM.of (plainFor_of_name (by decide)) (Nat.le_of_ble_eq_true rfl) ?_
  refine V_aload_n 1 dX8_drop_0 rfl rfl ?_
  refine V_iload_n 2 dX8_drop_1 rfl rfl ?_
  refine V_cV1i 5 (ct_X8_isOpen hS e hnh ha) cs_X8_91 rfl rfl (by decide) dX8_drop_2 rfl ⟨Nat.le_of_ble_eq_true rfl, Nat.le_of_ble_eq_true rfl⟩ (Nat.le_of_ble_eq_true rfl) ⟨Nat.le_of_ble_eq_true rfl, Nat.le_of_ble_eq_true rfl⟩ (fun x h' hx hle => ?_)
  obtain ⟨rfl, rfl⟩ := hx
  refine V_if_ne 11 8 dX8_drop_5 rfl rfl (fun c_5 => ?_) (fun c_5 => ?_)
  · skip
    refine V_aload_n 12 dX8_drop_11 rfl rfl ?_
    refine V_getR 15 8 15 fl_X8_84 dX8_drop_12 rfl rfl (by decide) (Or.inr ⟨_, rfl⟩) (by decide) (sr_15 hS) ?_
    refine V_iload_n 16 dX8_drop_15 rfl rfl ?_
    refine V_iconst (v := 1) 17 dX8_drop_16 rfl (by decide) ?_
    refine V_zastN 18 (_) dX8_drop_17 rfl rfl (by decide) rfl (show _ < 200 by omega) (by decide) rfl ?_
    refine V_aload_n 19 dX8_drop_18 rfl rfl ?_
    refine V_getR 22 8 13 fl_X8_104 dX8_drop_19 rfl rfl (by decide) (Or.inr ⟨_, rfl⟩) (by decide) (sr_13 hS) ?_
    refine V_iload_n 23 dX8_drop_22 rfl rfl ?_
    refine V_ialdN 24 (_) dX8_drop_23 rfl rfl (by decide) rfl (show _ < 200 by omega) (by decide) ?_
    refine V_iret dX8_drop_24 rfl rfl ⟨_, rfl, ?_⟩ (by first | exact Nat.le_refl _ | decide | omega) (by first | exact Nat.le_refl _ | decide | omega)
    exact ⟨rfl, rfl⟩
  · skip
    exact absurd (by rw [if_pos ho] at c_5; exact c_5) (by decide)
theorem ct_X8_drop_bad {nh : Nat} {a : Int32} (hS : SHR h) (e : qg_i h 33 0 10 = nI nh) (hnh : nh ≤ 200) (ha : ¬ ∃ j, j < nh ∧ a = nI j ∧ m_open h j = true) : qM yX8_drop cX8_drop 2 ((some .int)) 1 21 0 0 [.inr (.inr (some (33, 0))), .inl a] h (pI fun x h' => x = -2 ∧ h' = h) := by
  rcases pk_ix a (n := nh) (by omega) with z | z | ⟨j, hj, rfl⟩
  · refine qM.of (plainFor_of_name (by decide)) (Nat.le_of_ble_eq_true rfl) ?_
    refine V_aload_n 1 dX8_drop_0 rfl rfl ?_
    refine V_iload_n 2 dX8_drop_1 rfl rfl ?_
    refine V_cV1i 5 (ct_X8_isOpen_no hS e hnh (Or.inl z)) cs_X8_91 rfl rfl (by decide) dX8_drop_2 rfl ⟨Nat.le_of_ble_eq_true rfl, Nat.le_of_ble_eq_true rfl⟩ (Nat.le_of_ble_eq_true rfl) ⟨Nat.le_of_ble_eq_true rfl, Nat.le_of_ble_eq_true rfl⟩ (fun x h' hx hle => ?_)
    obtain ⟨rfl, rfl⟩ := hx
    refine V_if_ne 11 8 dX8_drop_5 rfl rfl (fun c_5 => ?_) (fun c_5 => ?_)
    · skip
      exact absurd rfl c_5
    · skip
      refine V_bipush (v := (-2)) 10 dX8_drop_8 rfl (by decide) ?_
      refine V_iret dX8_drop_10 rfl rfl ⟨_, rfl, ?_⟩ (by first | exact Nat.le_refl _ | decide | omega) (by first | exact Nat.le_refl _ | decide | omega)
      exact ⟨rfl, rfl⟩
  · refine qM.of (plainFor_of_name (by decide)) (Nat.le_of_ble_eq_true rfl) ?_
    refine V_aload_n 1 dX8_drop_0 rfl rfl ?_
    refine V_iload_n 2 dX8_drop_1 rfl rfl ?_
    refine V_cV1i 5 (ct_X8_isOpen_no hS e hnh (Or.inr z)) cs_X8_91 rfl rfl (by decide) dX8_drop_2 rfl ⟨Nat.le_of_ble_eq_true rfl, Nat.le_of_ble_eq_true rfl⟩ (Nat.le_of_ble_eq_true rfl) ⟨Nat.le_of_ble_eq_true rfl, Nat.le_of_ble_eq_true rfl⟩ (fun x h' hx hle => ?_)
    obtain ⟨rfl, rfl⟩ := hx
    refine V_if_ne 11 8 dX8_drop_5 rfl rfl (fun c_5 => ?_) (fun c_5 => ?_)
    · skip
      exact absurd rfl c_5
    · skip
      refine V_bipush (v := (-2)) 10 dX8_drop_8 rfl (by decide) ?_
      refine V_iret dX8_drop_10 rfl rfl ⟨_, rfl, ?_⟩ (by first | exact Nat.le_refl _ | decide | omega) (by first | exact Nat.le_refl _ | decide | omega)
      exact ⟨rfl, rfl⟩
  · have ho : ¬ m_open h j = true := fun q => ha ⟨j, hj, rfl, q⟩
    refine qM.of (plainFor_of_name (by decide)) (Nat.le_of_ble_eq_true rfl) ?_
    refine V_aload_n 1 dX8_drop_0 rfl rfl ?_
    refine V_iload_n 2 dX8_drop_1 rfl rfl ?_
    refine V_cV1i 5 (ct_X8_isOpen hS e hnh hj) cs_X8_91 rfl rfl (by decide) dX8_drop_2 rfl ⟨Nat.le_of_ble_eq_true rfl, Nat.le_of_ble_eq_true rfl⟩ (Nat.le_of_ble_eq_true rfl) ⟨Nat.le_of_ble_eq_true rfl, Nat.le_of_ble_eq_true rfl⟩ (fun x h' hx hle => ?_)
    obtain ⟨rfl, rfl⟩ := hx
    refine V_if_ne 11 8 dX8_drop_5 rfl rfl (fun c_5 => ?_) (fun c_5 => ?_)
    · skip
      exact absurd (if_neg ho) c_5
    · skip
      refine V_bipush (v := (-2)) 10 dX8_drop_8 rfl (by decide) ?_
      refine V_iret dX8_drop_10 rfl rfl ⟨_, rfl, ?_⟩ (by first | exact Nat.le_refl _ | decide | omega) (by first | exact Nat.le_refl _ | decide | omega)
      exact ⟨rfl, rfl⟩
end RH
