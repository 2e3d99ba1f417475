/-! The reference: small methods, chains, sums -/
section RF
variable {h : qH}
theorem ct_X8_isTenant (h : qH) (a : Int32) : qM yX8_isTenant cX8_isTenant 1 (some .boolean) 0 0 0 0 [.inl a] h (pI fun x h' => x = (if 0 ≤ a ∧ a < 6 then 1 else 0) ∧ h' = h) := by
  refine qM.of (plainFor_of_name (by decide)) (Nat.le_of_ble_eq_true rfl) ?_
  refine V_iload_n 1 dX8_isTenant_0 rfl rfl ?_
  refine V_if_lt 14 4 dX8_isTenant_1 rfl rfl (fun c_1 => ?_) (fun c_1 => ?_)
  · skip
    refine V_iconst (v := 0) 15 dX8_isTenant_14 rfl (by decide) ?_
    refine V_iret dX8_isTenant_15 rfl rfl ⟨_, rfl, ?_⟩ (by first | exact Nat.le_refl _ | decide | omega) (by first | exact Nat.le_refl _ | decide | omega)
    exact ⟨by split <;> first | rfl | grind, rfl⟩
  · skip
    refine V_iload_n 5 dX8_isTenant_4 rfl rfl ?_
    refine V_bipush (v := 6) 7 dX8_isTenant_5 rfl (by decide) ?_
    refine V_icmp_ge 14 10 dX8_isTenant_7 rfl rfl (fun c_7 => ?_) (fun c_7 => ?_)
    · skip
      refine V_iconst (v := 0) 15 dX8_isTenant_14 rfl (by decide) ?_
      refine V_iret dX8_isTenant_15 rfl rfl ⟨_, rfl, ?_⟩ (by first | exact Nat.le_refl _ | decide | omega) (by first | exact Nat.le_refl _ | decide | omega)
      exact ⟨by split <;> first | rfl | grind, rfl⟩
    · skip
      refine V_iconst (v := 1) 11 dX8_isTenant_10 rfl (by decide) ?_
      refine V_goto 15 dX8_isTenant_11 rfl ?_
      refine V_iret dX8_isTenant_15 rfl rfl ⟨_, rfl, ?_⟩ (by first | exact Nat.le_refl _ | decide | omega) (by first | exact Nat.le_refl _ | decide | omega)
      exact ⟨by split <;> first | rfl | grind, rfl⟩
theorem ct_X8_isResource (h : qH) (a : Int32) : qM yX8_isResource cX8_isResource 1 (some .boolean) 0 0 0 0 [.inl a] h (pI fun x h' => x = (if 0 ≤ a ∧ a < 4 then 1 else 0) ∧ h' = h) := by
  refine qM.of (plainFor_of_name (by decide)) (Nat.le_of_ble_eq_true rfl) ?_
  refine V_iload_n 1 dX8_isResource_0 rfl rfl ?_
  refine V_if_lt 13 4 dX8_isResource_1 rfl rfl (fun c_1 => ?_) (fun c_1 => ?_)
  · skip
    refine V_iconst (v := 0) 14 dX8_isResource_13 rfl (by decide) ?_
    refine V_iret dX8_isResource_14 rfl rfl ⟨_, rfl, ?_⟩ (by first | exact Nat.le_refl _ | decide | omega) (by first | exact Nat.le_refl _ | decide | omega)
    exact ⟨by split <;> first | rfl | grind, rfl⟩
  · skip
    refine V_iload_n 5 dX8_isResource_4 rfl rfl ?_
    refine V_iconst (v := 4) 6 dX8_isResource_5 rfl (by decide) ?_
    refine V_icmp_ge 13 9 dX8_isResource_6 rfl rfl (fun c_6 => ?_) (fun c_6 => ?_)
    · skip
      refine V_iconst (v := 0) 14 dX8_isResource_13 rfl (by decide) ?_
      refine V_iret dX8_isResource_14 rfl rfl ⟨_, rfl, ?_⟩ (by first | exact Nat.le_refl _ | decide | omega) (by first | exact Nat.le_refl _ | decide | omega)
      exact ⟨by split <;> first | rfl | grind, rfl⟩
    · skip
      refine V_iconst (v := 1) 10 dX8_isResource_9 rfl (by decide) ?_
      refine V_goto 14 dX8_isResource_10 rfl ?_
      refine V_iret dX8_isResource_14 rfl rfl ⟨_, rfl, ?_⟩ (by first | exact Nat.le_refl _ | decide | omega) (by first | exact Nat.le_refl _ | decide | omega)
      exact ⟨by split <;> first | rfl | grind, rfl⟩
theorem ct_X8_areUnits (h : qH) (a : Int32) : qM yX8_areUnits cX8_areUnits 1 (some .boolean) 0 0 0 0 [.inl a] h (pI fun x h' => x = (if 1 ≤ a ∧ a ≤ 1000000 then 1 else 0) ∧ h' = h) := by
  refine qM.of (plainFor_of_name (by decide)) (Nat.le_of_ble_eq_true rfl) ?_
  refine V_iload_n 1 dX8_areUnits_0 rfl rfl ?_
  refine V_iconst (v := 1) 2 dX8_areUnits_1 rfl (by decide) ?_
  refine V_icmp_lt 15 5 dX8_areUnits_2 rfl rfl (fun c_2 => ?_) (fun c_2 => ?_)
  · skip
    refine V_iconst (v := 0) 16 dX8_areUnits_15 rfl (by decide) ?_
    refine V_iret dX8_areUnits_16 rfl rfl ⟨_, rfl, ?_⟩ (by first | exact Nat.le_refl _ | decide | omega) (by first | exact Nat.le_refl _ | decide | omega)
    exact ⟨by split <;> first | rfl | grind, rfl⟩
  · skip
    refine V_iload_n 6 dX8_areUnits_5 rfl rfl ?_
    refine V_ldc (v := 1000000) 8 dX8_areUnits_6 rfl wc_X8_63 ?_
    refine V_icmp_gt 15 11 dX8_areUnits_8 rfl rfl (fun c_8 => ?_) (fun c_8 => ?_)
    · skip
      refine V_iconst (v := 0) 16 dX8_areUnits_15 rfl (by decide) ?_
      refine V_iret dX8_areUnits_16 rfl rfl ⟨_, rfl, ?_⟩ (by first | exact Nat.le_refl _ | decide | omega) (by first | exact Nat.le_refl _ | decide | omega)
      exact ⟨by split <;> first | rfl | grind, rfl⟩
    · skip
      refine V_iconst (v := 1) 12 dX8_areUnits_11 rfl (by decide) ?_
      refine V_goto 16 dX8_areUnits_12 rfl ?_
      refine V_iret dX8_areUnits_16 rfl rfl ⟨_, rfl, ?_⟩ (by first | exact Nat.le_refl _ | decide | omega) (by first | exact Nat.le_refl _ | decide | omega)
      exact ⟨by split <;> first | rfl | grind, rfl⟩
theorem ct_X8_isAccount (h : qH) (a : Int32) : qM yX8_isAccount cX8_isAccount 2 (some .boolean) 0 0 0 0 [.inr (.inr (some (33, 0))), .inl a] h (pI fun x h' => x = (if 0 ≤ a ∧ a < qg_i h 33 0 1 then 1 else 0) ∧ h' = h) := by
  refine qM.of (plainFor_of_name (by decide)) (Nat.le_of_ble_eq_true rfl) ?_
  refine V_iload_n 1 dX8_isAccount_0 rfl rfl ?_
  refine V_if_lt 16 4 dX8_isAccount_1 rfl rfl (fun c_1 => ?_) (fun c_1 => ?_)
  · skip
    refine V_iconst (v := 0) 17 dX8_isAccount_16 rfl (by decide) ?_
    refine V_iret dX8_isAccount_17 rfl rfl ⟨_, rfl, ?_⟩ (by first | exact Nat.le_refl _ | decide | omega) (by first | exact Nat.le_refl _ | decide | omega)
    exact ⟨by split <;> first | rfl | grind, rfl⟩
  · skip
    refine V_iload_n 5 dX8_isAccount_4 rfl rfl ?_
    refine V_aload_n 6 dX8_isAccount_5 rfl rfl ?_
    refine V_geti 9 8 1 fl_X8_3 dX8_isAccount_6 rfl rfl (by decide) rfl (by decide) ?_
    refine V_icmp_ge 16 12 dX8_isAccount_9 rfl rfl (fun c_9 => ?_) (fun c_9 => ?_)
    · skip
      refine V_iconst (v := 0) 17 dX8_isAccount_16 rfl (by decide) ?_
      refine V_iret dX8_isAccount_17 rfl rfl ⟨_, rfl, ?_⟩ (by first | exact Nat.le_refl _ | decide | omega) (by first | exact Nat.le_refl _ | decide | omega)
      exact ⟨by split <;> first | rfl | grind, rfl⟩
    · skip
      refine V_iconst (v := 1) 13 dX8_isAccount_12 rfl (by decide) ?_
      refine V_goto 17 dX8_isAccount_13 rfl ?_
      refine V_iret dX8_isAccount_17 rfl rfl ⟨_, rfl, ?_⟩ (by first | exact Nat.le_refl _ | decide | omega) (by first | exact Nat.le_refl _ | decide | omega)
      exact ⟨by split <;> first | rfl | grind, rfl⟩
theorem ct_X8_cell (h : qH) (a r p : Nat) : qM yX8_cell cX8_cell 3 (some .int) 0 0 0 0 [.inl (nI a), .inl (nI r), .inl (nI p)] h (pI fun x h' => x = nI ((4 * a + r) * 100 + p) ∧ h' = h) := by
  refine qM.of (plainFor_of_name (by decide)) (Nat.le_of_ble_eq_true rfl) ?_
  refine V_iconst (v := 4) 1 dX8_cell_0 rfl (by decide) ?_
  refine V_iload_n 2 dX8_cell_1 rfl rfl ?_
  refine V_imul 3 dX8_cell_2 rfl ?_
  refine V_iload_n 4 dX8_cell_3 rfl rfl ?_
  refine V_iadd 5 dX8_cell_4 rfl ?_
  refine V_bipush (v := 100) 7 dX8_cell_5 rfl (by decide) ?_
  refine V_imul 8 dX8_cell_7 rfl ?_
  refine V_iload_n 9 dX8_cell_8 rfl rfl ?_
  refine V_iadd 10 dX8_cell_9 rfl ?_
  refine V_iret dX8_cell_10 rfl rfl ⟨_, rfl, ?_⟩ (by first | exact Nat.le_refl _ | decide | omega) (by first | exact Nat.le_refl _ | decide | omega)
  exact ⟨by rw [show (4 : Int32) = nI 4 from rfl, show (100 : Int32) = nI 100 from rfl, pk_mul, nI_add, pk_mul, nI_add], rfl⟩
theorem ct_X8_row (h : qH) (t r : Nat) : qM yX8_row cX8_row 2 (some .int) 0 0 0 0 [.inl (nI t), .inl (nI r)] h (pI fun x h' => x = nI (18 * (4 * t + r)) ∧ h' = h) := by
  refine qM.of (plainFor_of_name (by decide)) (Nat.le_of_ble_eq_true rfl) ?_
  refine V_bipush (v := 18) 2 dX8_row_0 rfl (by decide) ?_
  refine V_iconst (v := 4) 3 dX8_row_2 rfl (by decide) ?_
  refine V_iload_n 4 dX8_row_3 rfl rfl ?_
  refine V_imul 5 dX8_row_4 rfl ?_
  refine V_iload_n 6 dX8_row_5 rfl rfl ?_
  refine V_iadd 7 dX8_row_6 rfl ?_
  refine V_imul 8 dX8_row_7 rfl ?_
  refine V_iret dX8_row_8 rfl rfl ⟨_, rfl, ?_⟩ (by first | exact Nat.le_refl _ | decide | omega) (by first | exact Nat.le_refl _ | decide | omega)
  exact ⟨by rw [show (4 : Int32) = nI 4 from rfl, show (18 : Int32) = nI 18 from rfl, pk_mul, nI_add, pk_mul], rfl⟩
theorem ct_X8_tick (h : qH) (a : Int32) : qM yX8_tick cX8_tick 2 (some .int) 0 0 0 0 [.inr (.inr (some (33, 0))), .inl a] h (pI fun x h' => (x = -2 ∧ h' = h ∧ (a < 1 ∨ 10000 < a)) ∨ (x = -3 ∧ h' = h ∧ 1 ≤ a ∧ a ≤ 10000 ∧ 99999 < qg_i h 33 0 0 + a) ∨ (x = qg_i h 33 0 0 + a ∧ h' = qs_i h 33 0 0 (qg_i h 33 0 0 + a) ∧ 1 ≤ a ∧ a ≤ 10000 ∧ qg_i h 33 0 0 + a ≤ 99999)) := by
  refine qM.of (plainFor_of_name (by decide)) (Nat.le_of_ble_eq_true rfl) ?_
  refine V_iload_n 1 dX8_tick_0 rfl rfl ?_
  refine V_iconst (v := 1) 2 dX8_tick_1 rfl (by decide) ?_
  refine V_icmp_lt 12 5 dX8_tick_2 rfl rfl (fun c_2 => ?_) (fun c_2 => ?_)
  · skip
    refine V_bipush (v := (-2)) 14 dX8_tick_12 rfl (by decide) ?_
    refine V_iret dX8_tick_14 rfl rfl ⟨_, rfl, ?_⟩ (by first | exact Nat.le_refl _ | decide | omega) (by first | exact Nat.le_refl _ | decide | omega)
    exact Or.inl ⟨rfl, rfl, by grind⟩
  · skip
    refine V_iload_n 6 dX8_tick_5 rfl rfl ?_
    refine V_sipush (v := 10000) 9 dX8_tick_6 rfl (by decide) ?_
    refine V_icmp_le 15 12 dX8_tick_9 rfl rfl (fun c_9 => ?_) (fun c_9 => ?_)
    · skip
      refine V_aload_n 16 dX8_tick_15 rfl rfl ?_
      refine V_geti 19 8 0 fl_X8_24 dX8_tick_16 rfl rfl (by decide) rfl (by decide) ?_
      refine V_iload_n 20 dX8_tick_19 rfl rfl ?_
      refine V_iadd 21 dX8_tick_20 rfl ?_
      refine V_ldc (v := 99999) 23 dX8_tick_21 rfl wc_X8_27 ?_
      refine V_icmp_le 29 26 dX8_tick_23 rfl rfl (fun c_23 => ?_) (fun c_23 => ?_)
      · skip
        refine V_aload_n 30 dX8_tick_29 rfl rfl ?_
        refine V_dup 31 dX8_tick_30 rfl ?_
        refine V_geti 34 8 0 fl_X8_24 dX8_tick_31 rfl rfl (by decide) rfl (by decide) ?_
        refine V_iload_n 35 dX8_tick_34 rfl rfl ?_
        refine V_iadd 36 dX8_tick_35 rfl ?_
        refine V_puti 39 8 0 fl_X8_24 dX8_tick_36 rfl rfl (by decide) rfl (by decide) (Or.inl rfl) ?_
        refine V_aload_n 40 dX8_tick_39 rfl rfl ?_
        refine V_geti 43 8 0 fl_X8_24 dX8_tick_40 rfl rfl (by decide) rfl (by decide) ?_
        refine V_iret dX8_tick_43 rfl rfl ⟨_, rfl, ?_⟩ (by first | exact Nat.le_refl _ | decide | omega) (by first | exact Nat.le_refl _ | decide | omega)
        exact Or.inr (Or.inr ⟨rfl, rfl, by grind⟩)
      · skip
        refine V_bipush (v := (-3)) 28 dX8_tick_26 rfl (by decide) ?_
        refine V_iret dX8_tick_28 rfl rfl ⟨_, rfl, ?_⟩ (by first | exact Nat.le_refl _ | decide | omega) (by first | exact Nat.le_refl _ | decide | omega)
        exact Or.inr (Or.inl ⟨rfl, rfl, by grind⟩)
    · skip
      refine V_bipush (v := (-2)) 14 dX8_tick_12 rfl (by decide) ?_
      refine V_iret dX8_tick_14 rfl rfl ⟨_, rfl, ?_⟩ (by first | exact Nat.le_refl _ | decide | omega) (by first | exact Nat.le_refl _ | decide | omega)
      exact Or.inl ⟨rfl, rfl, by grind⟩
/-- the chain -/
theorem lp_X8_lies0 {R : Room} {n0 : Nat → Nat} {Post : Option qV → qH → Prop} {b : Nat} (hb : b < 2 ^ 31) (hP : Post (some (.inl 0)) h) : Vw yX8_lies cX8_lies 4 (some .boolean) R 0 0 n0 Post 2 [(0, .inr (.inr (some (33, 0)))), (2, .inl (nI b)), (3, .inl (-1))] [] h 0 0 := by
  have hb1 := nI_ne_m1 hb
  refine V_iload_n 3 dX8_lies_2 rfl rfl ?_
  refine V_iconst (v := (-1)) 4 dX8_lies_3 rfl (by decide) ?_
  refine V_icmp_eq 22 7 dX8_lies_4 rfl rfl (fun c_4 => ?_) (fun c_4 => ?_)
  · skip
    refine V_iload_n 23 dX8_lies_22 rfl rfl ?_
    refine V_iload_n 24 dX8_lies_23 rfl rfl ?_
    refine V_icmp_ne 31 27 dX8_lies_24 rfl rfl (fun c_24 => ?_) (fun c_24 => ?_)
    · skip
      refine V_iconst (v := 0) 32 dX8_lies_31 rfl (by decide) ?_
      refine V_iret dX8_lies_32 rfl rfl ?_ (by first | exact Nat.le_refl _ | decide | omega) (by first | exact Nat.le_refl _ | decide | omega)
      exact hP
    · skip
      exact absurd c_24.symm hb1
  · skip
    exact absurd rfl c_4
theorem lp_X8_lies {na : Nat} (hS : SHR h) (hna : na ≤ 24) (hp : WI (qg_i h 35 0) na) {R : Room} {n0 : Nat → Nat} {Post : Option qV → qH → Prop} {b : Nat} (hb : b < na) :
    ∀ a : Nat, a < na → (Post (some (.inl (if ly (qg_i h 35 0) a b then 1 else 0))) h) → Vw yX8_lies cX8_lies 4 (some .boolean) R 0 0 n0 Post 2 [(0, .inr (.inr (some (33, 0)))), (2, .inl (nI b)), (3, .inl (nI a))] [] h 0 0 := by
  intro a
  induction a using Nat.strongRecOn with
  | _ a ih =>
    intro ha hP
    have ha1 := nI_ne_m1 (show a < 2 ^ 31 by omega)
    have e1 : nI a = nI b ↔ a = b := nI_eq (by omega) (by omega)
    refine V_iload_n 3 dX8_lies_2 rfl rfl ?_
    refine V_iconst (v := (-1)) 4 dX8_lies_3 rfl (by decide) ?_
    refine V_icmp_eq 22 7 dX8_lies_4 rfl rfl (fun c_4 => ?_) (fun c_4 => ?_)
    · skip
      exact absurd c_4 ha1
    · skip
      refine V_iload_n 8 dX8_lies_7 rfl rfl ?_
      refine V_iload_n 9 dX8_lies_8 rfl rfl ?_
      refine V_icmp_eq 22 12 dX8_lies_9 rfl rfl (fun c_9 => ?_) (fun c_9 => ?_)
      · skip
        have hab : a = b := e1.mp c_9
        subst hab
        rw [ly_self] at hP
        refine V_iload_n 23 dX8_lies_22 rfl rfl ?_
        refine V_iload_n 24 dX8_lies_23 rfl rfl ?_
        refine V_icmp_ne 31 27 dX8_lies_24 rfl rfl (fun c_24 => ?_) (fun c_24 => ?_)
        · skip
          exact absurd c_9 c_24
        · skip
          refine V_iconst (v := 1) 28 dX8_lies_27 rfl (by decide) ?_
          refine V_goto 32 dX8_lies_28 rfl ?_
          refine V_iret dX8_lies_32 rfl rfl ?_ (by first | exact Nat.le_refl _ | decide | omega) (by first | exact Nat.le_refl _ | decide | omega)
          exact hP
      · skip
        have hab : a ≠ b := fun q => c_9 (e1.mpr q)
        refine V_aload_n 13 dX8_lies_12 rfl rfl ?_
        refine V_getR 16 8 3 fl_X8_18 dX8_lies_13 rfl rfl (by decide) (Or.inr ⟨_, rfl⟩) (by decide) (sr_3 hS) ?_
        refine V_iload_n 17 dX8_lies_16 rfl rfl ?_
        refine V_ialdN 18 (_) dX8_lies_17 rfl rfl (by decide) rfl (show _ < 24 by omega) (by decide) ?_
        refine V_istore_n 19 dX8_lies_18 rfl (by decide) ?_
        refine V_goto 2 dX8_lies_19 rfl ?_
        rcases hp a ha with e | ⟨c, hc, e⟩
        · rw [ly_none e hab] at hP
          rw [e]
          exact V_at (lp_X8_lies0 (by omega) hP) ⟨rfl, rfl, rfl, trivial⟩
        · rw [ly_some (by omega) hp ha hc e hab] at hP
          rw [e]
          exact V_at (ih c hc (by omega) hP) ⟨rfl, rfl, rfl, trivial⟩
theorem ct_X8_lies {na : Nat} (hS : SHR h) (hna : na ≤ 24) (hp : WI (qg_i h 35 0) na) {a b : Nat} (ha : a < na) (hb : b < na) : qM yX8_lies cX8_lies 4 (some .boolean) 0 0 0 0 [.inr (.inr (some (33, 0))), .inl (nI a), .inl (nI b)] h (pI fun x h' => x = (if ly (qg_i h 35 0) a b then 1 else 0) ∧ h' = h) := by
  refine qM.of (plainFor_of_name (by decide)) (Nat.le_of_ble_eq_true rfl) ?_
  refine V_iload_n 1 dX8_lies_0 rfl rfl ?_
  refine V_istore_n 2 dX8_lies_1 rfl (by decide) ?_
  exact V_at (lp_X8_lies hS hna hp hb a ha ⟨_, rfl, rfl, rfl⟩) ⟨rfl, rfl, rfl, trivial⟩
/-- is a hold open, by its minute and whether it is gone -/
def m_open (h : qH) (j : Nat) : Bool := qg_i h 45 0 j = 0 && qg_i h 33 0 0 < qg_i h 44 0 j + 60
theorem ct_X8_isOpen {nh : Nat} (hS : SHR h) (e : qg_i h 33 0 10 = nI nh) (hnh : nh ≤ 200) {a : Nat} (ha : a < nh) : qM yX8_isOpen cX8_isOpen 2 (some .boolean) 0 0 0 0 [.inr (.inr (some (33, 0))), .inl (nI a)] h (pI fun x h' => x = (if m_open h a then 1 else 0) ∧ h' = h) := by
  refine qM.of (plainFor_of_name (by decide)) (Nat.le_of_ble_eq_true rfl) ?_
  refine V_iload_n 1 dX8_isOpen_0 rfl rfl ?_
  refine V_if_lt 41 4 dX8_isOpen_1 rfl rfl (fun c_1 => ?_) (fun c_1 => ?_)
  · skip
    exact absurd c_1 (nI_pos (by omega))
  · skip
    refine V_iload_n 5 dX8_isOpen_4 rfl rfl ?_
    refine V_aload_n 6 dX8_isOpen_5 rfl rfl ?_
    refine V_geti 9 8 10 fl_X8_81 dX8_isOpen_6 rfl rfl (by decide) rfl (by decide) ?_
    rw [e]
    refine V_icmp_ge 41 12 dX8_isOpen_9 rfl rfl (fun c_9 => ?_) (fun c_9 => ?_)
    · skip
      exact absurd c_9 (nI_ge ha (by omega))
    · skip
      refine V_aload_n 13 dX8_isOpen_12 rfl rfl ?_
      refine V_getR 16 8 15 fl_X8_84 dX8_isOpen_13 rfl rfl (by decide) (Or.inr ⟨_, rfl⟩) (by decide) (sr_15 hS) ?_
      refine V_iload_n 17 dX8_isOpen_16 rfl rfl ?_
      refine V_zaldN 18 (_) dX8_isOpen_17 rfl rfl (by decide) rfl (show _ < 200 by omega) (by decide) ?_
      refine V_if_ne 41 21 dX8_isOpen_18 rfl rfl (fun c_18 => ?_) (fun c_18 => ?_)
      · skip
        refine V_iconst (v := 0) 42 dX8_isOpen_41 rfl (by decide) ?_
        refine V_iret dX8_isOpen_42 rfl rfl ⟨_, rfl, ?_⟩ (by first | exact Nat.le_refl _ | decide | omega) (by first | exact Nat.le_refl _ | decide | omega)
        exact ⟨by unfold m_open; split <;> first | rfl | grind, rfl⟩
      · skip
        refine V_aload_n 22 dX8_isOpen_21 rfl rfl ?_
        refine V_geti 25 8 0 fl_X8_24 dX8_isOpen_22 rfl rfl (by decide) rfl (by decide) ?_
        refine V_aload_n 26 dX8_isOpen_25 rfl rfl ?_
        refine V_getR 29 8 14 fl_X8_88 dX8_isOpen_26 rfl rfl (by decide) (Or.inr ⟨_, rfl⟩) (by decide) (sr_14 hS) ?_
        refine V_iload_n 30 dX8_isOpen_29 rfl rfl ?_
        refine V_ialdN 31 (_) dX8_isOpen_30 rfl rfl (by decide) rfl (show _ < 200 by omega) (by decide) ?_
        refine V_bipush (v := 60) 33 dX8_isOpen_31 rfl (by decide) ?_
        refine V_iadd 34 dX8_isOpen_33 rfl ?_
        refine V_icmp_ge 41 37 dX8_isOpen_34 rfl rfl (fun c_34 => ?_) (fun c_34 => ?_)
        · skip
          refine V_iconst (v := 0) 42 dX8_isOpen_41 rfl (by decide) ?_
          refine V_iret dX8_isOpen_42 rfl rfl ⟨_, rfl, ?_⟩ (by first | exact Nat.le_refl _ | decide | omega) (by first | exact Nat.le_refl _ | decide | omega)
          exact ⟨by unfold m_open; split <;> first | rfl | grind, rfl⟩
        · skip
          refine V_iconst (v := 1) 38 dX8_isOpen_37 rfl (by decide) ?_
          refine V_goto 42 dX8_isOpen_38 rfl ?_
          refine V_iret dX8_isOpen_42 rfl rfl ⟨_, rfl, ?_⟩ (by first | exact Nat.le_refl _ | decide | omega) (by first | exact Nat.le_refl _ | decide | omega)
          exact ⟨by unfold m_open; split <;> first | rfl | grind, rfl⟩
theorem ct_X8_isOpen_no {nh : Nat} (hS : SHR h) (e : qg_i h 33 0 10 = nI nh) (hnh : nh ≤ 200) {a : Int32} (ha : a < 0 ∨ nI nh ≤ a) : qM yX8_isOpen cX8_isOpen 2 (some .boolean) 0 0 0 0 [.inr (.inr (some (33, 0))), .inl a] h (pI fun x h' => x = 0 ∧ h' = h) := by
  refine qM.of (plainFor_of_name (by decide)) (Nat.le_of_ble_eq_true rfl) ?_
  refine V_iload_n 1 dX8_isOpen_0 rfl rfl ?_
  refine V_if_lt 41 4 dX8_isOpen_1 rfl rfl (fun c_1 => ?_) (fun c_1 => ?_)
  · skip
    refine V_iconst (v := 0) 42 dX8_isOpen_41 rfl (by decide) ?_
    refine V_iret dX8_isOpen_42 rfl rfl ⟨_, rfl, ?_⟩ (by first | exact Nat.le_refl _ | decide | omega) (by first | exact Nat.le_refl _ | decide | omega)
    exact ⟨rfl, rfl⟩
  · skip
    refine V_iload_n 5 dX8_isOpen_4 rfl rfl ?_
    refine V_aload_n 6 dX8_isOpen_5 rfl rfl ?_
    refine V_geti 9 8 10 fl_X8_81 dX8_isOpen_6 rfl rfl (by decide) rfl (by decide) ?_
    rw [e]
    refine V_icmp_ge 41 12 dX8_isOpen_9 rfl rfl (fun c_9 => ?_) (fun c_9 => ?_)
    · skip
      refine V_iconst (v := 0) 42 dX8_isOpen_41 rfl (by decide) ?_
      refine V_iret dX8_isOpen_42 rfl rfl ⟨_, rfl, ?_⟩ (by first | exact Nat.le_refl _ | decide | omega) (by first | exact Nat.le_refl _ | decide | omega)
      exact ⟨rfl, rfl⟩
    · skip
      grind
/-- how many are open -/
def m_open1 (h : qH) (j : Nat) : Int32 := if m_open h j then 1 else 0
theorem lp_X8_open {nh : Nat} (hS : SHR h) (e : qg_i h 33 0 10 = nI nh) (hnh : nh ≤ 200) {n0 : Nat → Nat} {Post : Option qV → qH → Prop} (hP : Post (some (.inl (sm_i (m_open1 h) nh))) h) :
    ∀ (m i : Nat), i + m = nh → Vw yX8_open cX8_open 3 (some .int) (qrm 1 21 0 0) 0 0 n0 Post 4 [(0, .inr (.inr (some (33, 0)))), (1, .inl (sm_i (m_open1 h) i)), (2, .inl (nI i))] [] h 0 0 := by
  intro m
  induction m with
  | zero =>
    intro i hi
    have hi : i = nh := by omega
    subst hi
    refine V_iload_n 5 dX8_open_4 rfl rfl ?_
    refine V_aload_n 6 dX8_open_5 rfl rfl ?_
    refine V_geti 9 8 10 fl_X8_81 dX8_open_6 rfl rfl (by decide) rfl (by decide) ?_
    rw [e]
    refine V_icmp_ge 34 12 dX8_open_9 rfl rfl (fun c_9 => ?_) (fun c_9 => ?_)
    · skip
      refine V_iload_n 35 dX8_open_34 rfl rfl ?_
      refine V_iret dX8_open_35 rfl rfl ?_ (by first | exact Nat.le_refl _ | decide | omega) (by first | exact Nat.le_refl _ | decide | omega)
      exact hP
    · skip
      exact absurd (nI_le (Nat.le_refl _) (by omega)) c_9
  | succ m ih =>
    intro i hi
    refine V_iload_n 5 dX8_open_4 rfl rfl ?_
    refine V_aload_n 6 dX8_open_5 rfl rfl ?_
    refine V_geti 9 8 10 fl_X8_81 dX8_open_6 rfl rfl (by decide) rfl (by decide) ?_
    rw [e]
    refine V_icmp_ge 34 12 dX8_open_9 rfl rfl (fun c_9 => ?_) (fun c_9 => ?_)
    · skip
      exact absurd c_9 (nI_ge (by omega) (by omega))
    · skip
      refine V_iload_n 13 dX8_open_12 rfl rfl ?_
      refine V_aload_n 14 dX8_open_13 rfl rfl ?_
      refine V_iload_n 15 dX8_open_14 rfl rfl ?_
      refine V_cV1i 18 (ct_X8_isOpen hS e hnh (by omega)) cs_X8_91 rfl rfl (by decide) dX8_open_15 rfl ⟨Nat.le_of_ble_eq_true rfl, Nat.le_of_ble_eq_true rfl⟩ (Nat.le_of_ble_eq_true rfl) ⟨Nat.le_of_ble_eq_true rfl, Nat.le_of_ble_eq_true rfl⟩ (fun x h' hx hle => ?_)
      obtain ⟨rfl, rfl⟩ := hx
      refine V_if_eq 25 21 dX8_open_18 rfl rfl (fun c_18 => ?_) (fun c_18 => ?_)
      · skip
        refine V_iconst (v := 0) 26 dX8_open_25 rfl (by decide) ?_
        refine V_iadd 27 dX8_open_26 rfl ?_
        refine V_istore_n 28 dX8_open_27 rfl (by decide) ?_
        refine V_iincN 31 dX8_open_28 rfl rfl (by decide) ?_
        refine V_goto 4 dX8_open_31 rfl ?_
        refine V_at (ih (i + 1) (by omega)) ⟨rfl, ?_, rfl, trivial⟩
        show some _ = some _
        simp only [sm_i, m_open1]
        grind
      · skip
        refine V_iconst (v := 1) 22 dX8_open_21 rfl (by decide) ?_
        refine V_goto 26 dX8_open_22 rfl ?_
        refine V_iadd 27 dX8_open_26 rfl ?_
        refine V_istore_n 28 dX8_open_27 rfl (by decide) ?_
        refine V_iincN 31 dX8_open_28 rfl rfl (by decide) ?_
        refine V_goto 4 dX8_open_31 rfl ?_
        refine V_at (ih (i + 1) (by omega)) ⟨rfl, ?_, rfl, trivial⟩
        show some _ = some _
        simp only [sm_i, m_open1]
        grind
theorem ct_X8_open {nh : Nat} (hS : SHR h) (e : qg_i h 33 0 10 = nI nh) (hnh : nh ≤ 200) : qM yX8_open cX8_open 3 (some .int) 1 21 0 0 [.inr (.inr (some (33, 0)))] h (pI fun x h' => x = sm_i (m_open1 h) nh ∧ h' = h) := by
  refine qM.of (plainFor_of_name (by decide)) (Nat.le_of_ble_eq_true rfl) ?_
  refine V_iconst (v := 0) 1 dX8_open_0 rfl (by decide) ?_
  refine V_istore_n 2 dX8_open_1 rfl (by decide) ?_
  refine V_iconst (v := 0) 3 dX8_open_2 rfl (by decide) ?_
  refine V_istore_n 4 dX8_open_3 rfl (by decide) ?_
  exact V_at (lp_X8_open hS e hnh ⟨_, rfl, rfl, rfl⟩ nh 0 (by omega)) ⟨rfl, rfl, rfl, trivial⟩
end RF
