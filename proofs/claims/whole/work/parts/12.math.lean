/-! Math, and the reference's small methods -/
theorem qx_sw {x : Int32} (lo n : Nat) (h1 : lo + n < 2 ^ 31) (h2 : 0 < n) (z : ¬ (x.toInt < (lo : Int) ∨ ((lo + n - 1 : Nat) : Int) < x.toInt)) : ∃ j : Nat, j < n ∧ x = nI (lo + j) := by
  refine ⟨x.toInt.toNat - lo, by omega, ?_⟩
  apply Int32.toInt_inj.mp
  rw [nI_toInt (by omega)]
  omega
theorem ct_J9_max_7cf53 (h : qH) (a b : Int32) : qM yJ9_max_7cf53 cJ9_max_7cf53 2 (some .int) 0 0 0 0 [.inl a, .inl b] h (pI fun x h' => x = (if a < b then b else a) ∧ h' = h) := by
  refine qM.of (by decide +kernel) (Nat.le_of_ble_eq_true rfl) ?_
  refine V_iload_n 1 dJ9_max_7cf53_0 rfl rfl ?_
  refine V_iload_n 2 dJ9_max_7cf53_1 rfl rfl ?_
  refine V_icmp_lt 9 5 dJ9_max_7cf53_2 rfl rfl (fun c_2 => ?_) (fun c_2 => ?_)
  · skip
    refine V_iload_n 10 dJ9_max_7cf53_9 rfl rfl ?_
    refine V_iret dJ9_max_7cf53_10 rfl rfl ⟨_, rfl, ?_⟩ (by first | exact Nat.le_refl _ | decide | omega) (by first | exact Nat.le_refl _ | decide | omega)
    exact ⟨by split <;> first | rfl | grind, rfl⟩
  · skip
    refine V_iload_n 6 dJ9_max_7cf53_5 rfl rfl ?_
    refine V_goto 10 dJ9_max_7cf53_6 rfl ?_
    refine V_iret dJ9_max_7cf53_10 rfl rfl ⟨_, rfl, ?_⟩ (by first | exact Nat.le_refl _ | decide | omega) (by first | exact Nat.le_refl _ | decide | omega)
    exact ⟨by split <;> first | rfl | grind, rfl⟩
theorem ct_J9_min_7cf53 (h : qH) (a b : Int32) : qM yJ9_min_7cf53 cJ9_min_7cf53 2 (some .int) 0 0 0 0 [.inl a, .inl b] h (pI fun x h' => x = (if b < a then b else a) ∧ h' = h) := by
  refine qM.of (by decide +kernel) (Nat.le_of_ble_eq_true rfl) ?_
  refine V_iload_n 1 dJ9_min_7cf53_0 rfl rfl ?_
  refine V_iload_n 2 dJ9_min_7cf53_1 rfl rfl ?_
  refine V_icmp_gt 9 5 dJ9_min_7cf53_2 rfl rfl (fun c_2 => ?_) (fun c_2 => ?_)
  · skip
    refine V_iload_n 10 dJ9_min_7cf53_9 rfl rfl ?_
    refine V_iret dJ9_min_7cf53_10 rfl rfl ⟨_, rfl, ?_⟩ (by first | exact Nat.le_refl _ | decide | omega) (by first | exact Nat.le_refl _ | decide | omega)
    exact ⟨by split <;> first | rfl | grind, rfl⟩
  · skip
    refine V_iload_n 6 dJ9_min_7cf53_5 rfl rfl ?_
    refine V_goto 10 dJ9_min_7cf53_6 rfl ?_
    refine V_iret dJ9_min_7cf53_10 rfl rfl ⟨_, rfl, ?_⟩ (by first | exact Nat.le_refl _ | decide | omega) (by first | exact Nat.le_refl _ | decide | omega)
    exact ⟨by split <;> first | rfl | grind, rfl⟩
theorem ct_J9_max_f86c9 (h : qH) (a b : Int64) : qM yJ9_max_f86c9 cJ9_max_f86c9 4 (some .long) 0 0 0 0 [.inr (.inl a), .inr (.inl b)] h (pL fun x h' => x = (if a < b then b else a) ∧ h' = h) := by
  refine qM.of (by decide +kernel) (Nat.le_of_ble_eq_true rfl) ?_
  refine V_lload_n 1 dJ9_max_f86c9_0 rfl rfl ?_
  refine V_lload_n 2 dJ9_max_f86c9_1 rfl rfl ?_
  refine V_lcmp 3 dJ9_max_f86c9_2 rfl ?_
  refine V_if_lt 10 6 dJ9_max_f86c9_3 rfl rfl (fun c_3 => ?_) (fun c_3 => ?_)
  · (rw [lg_lt] at c_3)
    refine V_lload_n 11 dJ9_max_f86c9_10 rfl rfl ?_
    refine V_lret dJ9_max_f86c9_11 rfl ⟨_, rfl, ?_⟩ (by first | exact Nat.le_refl _ | decide | omega) (by first | exact Nat.le_refl _ | decide | omega)
    exact ⟨by split <;> first | rfl | grind, rfl⟩
  · (rw [lg_lt] at c_3)
    refine V_lload_n 7 dJ9_max_f86c9_6 rfl rfl ?_
    refine V_goto 11 dJ9_max_f86c9_7 rfl ?_
    refine V_lret dJ9_max_f86c9_11 rfl ⟨_, rfl, ?_⟩ (by first | exact Nat.le_refl _ | decide | omega) (by first | exact Nat.le_refl _ | decide | omega)
    exact ⟨by split <;> first | rfl | grind, rfl⟩
theorem ct_J9_min_f86c9 (h : qH) (a b : Int64) : qM yJ9_min_f86c9 cJ9_min_f86c9 4 (some .long) 0 0 0 0 [.inr (.inl a), .inr (.inl b)] h (pL fun x h' => x = (if b < a then b else a) ∧ h' = h) := by
  refine qM.of (by decide +kernel) (Nat.le_of_ble_eq_true rfl) ?_
  refine V_lload_n 1 dJ9_min_f86c9_0 rfl rfl ?_
  refine V_lload_n 2 dJ9_min_f86c9_1 rfl rfl ?_
  refine V_lcmp 3 dJ9_min_f86c9_2 rfl ?_
  refine V_if_gt 10 6 dJ9_min_f86c9_3 rfl rfl (fun c_3 => ?_) (fun c_3 => ?_)
  · (rw [lg_gt] at c_3)
    refine V_lload_n 11 dJ9_min_f86c9_10 rfl rfl ?_
    refine V_lret dJ9_min_f86c9_11 rfl ⟨_, rfl, ?_⟩ (by first | exact Nat.le_refl _ | decide | omega) (by first | exact Nat.le_refl _ | decide | omega)
    exact ⟨by split <;> first | rfl | grind, rfl⟩
  · (rw [lg_gt] at c_3)
    refine V_lload_n 7 dJ9_min_f86c9_6 rfl rfl ?_
    refine V_goto 11 dJ9_min_f86c9_7 rfl ?_
    refine V_lret dJ9_min_f86c9_11 rfl ⟨_, rfl, ?_⟩ (by first | exact Nat.le_refl _ | decide | omega) (by first | exact Nat.le_refl _ | decide | omega)
    exact ⟨by split <;> first | rfl | grind, rfl⟩
def q_fdiv (a b : Int64) : Int64 := if (a ^^^ b) < 0 ∧ a / b * b ≠ a then a / b - 1 else a / b
def q_fmod (a b : Int64) : Int64 := if (a ^^^ b) < 0 ∧ a - a / b * b ≠ 0 then a - a / b * b + b else a - a / b * b
theorem ct_J9_floorDiv_f86c9 (h : qH) (a b : Int64) (hb : ¬ b = 0) : qM yJ9_floorDiv_f86c9 cJ9_floorDiv_f86c9 6 (some .long) 0 0 0 0 [.inr (.inl a), .inr (.inl b)] h (pL fun x h' => x = q_fdiv a b ∧ h' = h) := by
  refine qM.of (by decide +kernel) (Nat.le_of_ble_eq_true rfl) ?_
  refine V_lload_n 1 dJ9_floorDiv_f86c9_0 rfl rfl ?_
  refine V_lload_n 2 dJ9_floorDiv_f86c9_1 rfl rfl ?_
  refine V_ldiv 3 dJ9_floorDiv_f86c9_2 rfl hb ?_
  refine V_lstore 5 dJ9_floorDiv_f86c9_3 rfl (by decide) ?_
  refine V_lload_n 6 dJ9_floorDiv_f86c9_5 rfl rfl ?_
  refine V_lload_n 7 dJ9_floorDiv_f86c9_6 rfl rfl ?_
  refine V_lxor 8 dJ9_floorDiv_f86c9_7 rfl ?_
  refine V_lconst (v := 0) 9 dJ9_floorDiv_f86c9_8 rfl (by decide) ?_
  refine V_lcmp 10 dJ9_floorDiv_f86c9_9 rfl ?_
  refine V_if_ge 27 13 dJ9_floorDiv_f86c9_10 rfl rfl (fun c_10 => ?_) (fun c_10 => ?_)
  · (rw [lg_ge] at c_10)
    refine V_lload 29 dJ9_floorDiv_f86c9_27 rfl rfl ?_
    refine V_lret dJ9_floorDiv_f86c9_29 rfl ⟨_, rfl, ?_⟩ (by first | exact Nat.le_refl _ | decide | omega) (by first | exact Nat.le_refl _ | decide | omega)
    exact ⟨by grind [q_fdiv], rfl⟩
  · (rw [lg_ge] at c_10)
    refine V_lload 15 dJ9_floorDiv_f86c9_13 rfl rfl ?_
    refine V_lload_n 16 dJ9_floorDiv_f86c9_15 rfl rfl ?_
    refine V_lmul 17 dJ9_floorDiv_f86c9_16 rfl ?_
    refine V_lload_n 18 dJ9_floorDiv_f86c9_17 rfl rfl ?_
    refine V_lcmp 19 dJ9_floorDiv_f86c9_18 rfl ?_
    refine V_if_eq 27 22 dJ9_floorDiv_f86c9_19 rfl rfl (fun c_19 => ?_) (fun c_19 => ?_)
    · (rw [lg_eq] at c_19)
      refine V_lload 29 dJ9_floorDiv_f86c9_27 rfl rfl ?_
      refine V_lret dJ9_floorDiv_f86c9_29 rfl ⟨_, rfl, ?_⟩ (by first | exact Nat.le_refl _ | decide | omega) (by first | exact Nat.le_refl _ | decide | omega)
      exact ⟨by grind [q_fdiv], rfl⟩
    · (rw [lg_eq] at c_19)
      refine V_lload 24 dJ9_floorDiv_f86c9_22 rfl rfl ?_
      refine V_lconst (v := 1) 25 dJ9_floorDiv_f86c9_24 rfl (by decide) ?_
      refine V_lsub 26 dJ9_floorDiv_f86c9_25 rfl ?_
      refine V_lret dJ9_floorDiv_f86c9_26 rfl ⟨_, rfl, ?_⟩ (by first | exact Nat.le_refl _ | decide | omega) (by first | exact Nat.le_refl _ | decide | omega)
      exact ⟨by grind [q_fdiv], rfl⟩
theorem ct_J9_floorMod_f86c9 (h : qH) (a b : Int64) (hb : ¬ b = 0) : qM yJ9_floorMod_f86c9 cJ9_floorMod_f86c9 6 (some .long) 0 0 0 0 [.inr (.inl a), .inr (.inl b)] h (pL fun x h' => x = q_fmod a b ∧ h' = h) := by
  refine qM.of (by decide +kernel) (Nat.le_of_ble_eq_true rfl) ?_
  refine V_lload_n 1 dJ9_floorMod_f86c9_0 rfl rfl ?_
  refine V_lload_n 2 dJ9_floorMod_f86c9_1 rfl rfl ?_
  refine V_lrem 3 dJ9_floorMod_f86c9_2 rfl hb ?_
  refine V_lstore 5 dJ9_floorMod_f86c9_3 rfl (by decide) ?_
  refine V_lload_n 6 dJ9_floorMod_f86c9_5 rfl rfl ?_
  refine V_lload_n 7 dJ9_floorMod_f86c9_6 rfl rfl ?_
  refine V_lxor 8 dJ9_floorMod_f86c9_7 rfl ?_
  refine V_lconst (v := 0) 9 dJ9_floorMod_f86c9_8 rfl (by decide) ?_
  refine V_lcmp 10 dJ9_floorMod_f86c9_9 rfl ?_
  refine V_if_ge 25 13 dJ9_floorMod_f86c9_10 rfl rfl (fun c_10 => ?_) (fun c_10 => ?_)
  · (rw [lg_ge] at c_10)
    refine V_lload 27 dJ9_floorMod_f86c9_25 rfl rfl ?_
    refine V_lret dJ9_floorMod_f86c9_27 rfl ⟨_, rfl, ?_⟩ (by first | exact Nat.le_refl _ | decide | omega) (by first | exact Nat.le_refl _ | decide | omega)
    exact ⟨by grind [q_fmod], rfl⟩
  · (rw [lg_ge] at c_10)
    refine V_lload 15 dJ9_floorMod_f86c9_13 rfl rfl ?_
    refine V_lconst (v := 0) 16 dJ9_floorMod_f86c9_15 rfl (by decide) ?_
    refine V_lcmp 17 dJ9_floorMod_f86c9_16 rfl ?_
    refine V_if_eq 25 20 dJ9_floorMod_f86c9_17 rfl rfl (fun c_17 => ?_) (fun c_17 => ?_)
    · (rw [lg_eq] at c_17)
      refine V_lload 27 dJ9_floorMod_f86c9_25 rfl rfl ?_
      refine V_lret dJ9_floorMod_f86c9_27 rfl ⟨_, rfl, ?_⟩ (by first | exact Nat.le_refl _ | decide | omega) (by first | exact Nat.le_refl _ | decide | omega)
      exact ⟨by grind [q_fmod], rfl⟩
    · (rw [lg_eq] at c_17)
      refine V_lload 22 dJ9_floorMod_f86c9_20 rfl rfl ?_
      refine V_lload_n 23 dJ9_floorMod_f86c9_22 rfl rfl ?_
      refine V_ladd 24 dJ9_floorMod_f86c9_23 rfl ?_
      refine V_lret dJ9_floorMod_f86c9_24 rfl ⟨_, rfl, ?_⟩ (by first | exact Nat.le_refl _ | decide | omega) (by first | exact Nat.le_refl _ | decide | omega)
      exact ⟨by grind [q_fmod], rfl⟩
