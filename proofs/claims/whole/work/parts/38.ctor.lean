/-! New objects: what their making does -/
theorem rN5 : rg_N 5 = 6 := rfl
theorem rN6 : rg_N 6 = 10 := rfl
section CN
variable {h : qH}
def f_5 (h : qH) (p : Nat) : qH := qs_l (qs_i (qs_i (qs_i (qs_r (qs_n (qs_r (qs_n (qs_r (qs_n h 19) 18 p 0 (some (19, p))) 20) 18 p 1 (some (20, p))) 21) 18 p 2 (some (21, p))) 18 p 3 1) 18 p 4 0) 18 p 5 1) 19 p 0 1
theorem ct_X5_init {p : Nat} (h1 : qg_n h 19 = p) (h2 : qg_n h 20 = p) (h3 : qg_n h 21 = p) : qM yX5_init cX5_init 1 none 1 20 3 15 [.inr (.inr (some (18, p)))] h (pV fun h' => h' = f_5 h p) := by
  refine qM.of (plainFor_of_name (by decide)) (Nat.le_of_ble_eq_true rfl) ?_
  refine V_aload_n 1 dX5_init_0 rfl rfl ?_
  refine V_objInit 4 ⟨_, rfl⟩ dX5_init_1 rfl ml_X5_3 im_objectInit cw_objectInit (Nat.le_of_ble_eq_true rfl) (Nat.le_of_ble_eq_true rfl) ?_
  refine V_aload_n 5 dX5_init_4 rfl rfl ?_
  refine V_iconst (v := 5) 6 dX5_init_5 rfl (by decide) ?_
  refine V_newaI 8 19 dX5_init_6 rfl rfl (by decide) rfl (Or.inr (Or.inl rfl)) wa_long (by decide) (by decide) (by decide) (Nat.le_of_ble_eq_true rfl) (Nat.le_of_ble_eq_true rfl) h1 ?_
  refine V_puta 11 5 0 fl_X5_9 dX5_init_8 rfl rfl (by decide) ⟨_, rfl⟩ (by decide) (Or.inr ⟨rfl, rfl⟩) ?_
  refine V_aload_n 12 dX5_init_11 rfl rfl ?_
  refine V_iconst (v := 5) 13 dX5_init_12 rfl (by decide) ?_
  refine V_newaI 15 20 dX5_init_13 rfl rfl (by decide) rfl (Or.inl rfl) wa_int (by decide) (by decide) (by decide) (Nat.le_of_ble_eq_true rfl) (Nat.le_of_ble_eq_true rfl) h2 ?_
  refine V_puta 18 5 1 fl_X5_15 dX5_init_15 rfl rfl (by decide) ⟨_, rfl⟩ (by decide) (Or.inr ⟨rfl, rfl⟩) ?_
  refine V_aload_n 19 dX5_init_18 rfl rfl ?_
  refine V_iconst (v := 5) 20 dX5_init_19 rfl (by decide) ?_
  refine V_newaI 22 21 dX5_init_20 rfl rfl (by decide) rfl (Or.inl rfl) wa_int (by decide) (by decide) (by decide) (Nat.le_of_ble_eq_true rfl) (Nat.le_of_ble_eq_true rfl) h3 ?_
  refine V_puta 25 5 2 fl_X5_19 dX5_init_22 rfl rfl (by decide) ⟨_, rfl⟩ (by decide) (Or.inr ⟨rfl, rfl⟩) ?_
  refine V_aload_n 26 dX5_init_25 rfl rfl ?_
  refine V_iconst (v := 1) 27 dX5_init_26 rfl (by decide) ?_
  refine V_puti 30 5 3 fl_X5_22 dX5_init_27 rfl rfl (by decide) rfl (by decide) (Or.inr ⟨rfl, rfl⟩) ?_
  refine V_aload_n 31 dX5_init_30 rfl rfl ?_
  refine V_iconst (v := 0) 32 dX5_init_31 rfl (by decide) ?_
  refine V_puti 35 5 4 fl_X5_26 dX5_init_32 rfl rfl (by decide) rfl (by decide) (Or.inr ⟨rfl, rfl⟩) ?_
  refine V_aload_n 36 dX5_init_35 rfl rfl ?_
  refine V_iconst (v := 1) 37 dX5_init_36 rfl (by decide) ?_
  refine V_puti 40 5 5 fl_X5_29 dX5_init_37 rfl rfl (by decide) rfl (by decide) (Or.inr ⟨rfl, rfl⟩) ?_
  refine V_aload_n 41 dX5_init_40 rfl rfl ?_
  refine V_getR 44 5 0 fl_X5_9 dX5_init_41 rfl rfl (by decide) (Or.inr ⟨_, rfl⟩) (by decide) (show _ = some (19, p) by simp [qrr, qri, qrn]) ?_
  refine V_iconst (v := 0) 45 dX5_init_44 rfl (by decide) ?_
  refine V_lconst (v := 1) 46 dX5_init_45 rfl (by decide) ?_
  refine V_lastN 47 (0) dX5_init_46 rfl rfl (by decide) rfl (show _ < 5 by omega) (by decide) ?_
  refine V_vret dX5_init_47 rfl ⟨rfl, ?_⟩ (by first | exact Nat.le_refl _ | decide | omega) (by first | exact Nat.le_refl _ | decide | omega)
  rfl
def f_1 (h : qH) (t : Nat) : qH := qs_r (qs_n (qs_r (qs_n h 16) 15 t 0 (some (16, t))) 17) 15 t 1 (some (17, t))
theorem ct_X1_init {t : Nat} (h1 : qg_n h 16 = t) (h2 : qg_n h 17 = t) : qM yX1_init cX1_init 1 none 1 20 2 80 [.inr (.inr (some (15, t)))] h (pV fun h' => h' = f_1 h t) := by
  refine qM.of (plainFor_of_name (by decide)) (Nat.le_of_ble_eq_true rfl) ?_
  refine V_aload_n 1 dX1_init_0 rfl rfl ?_
  refine V_objInit 4 ⟨_, rfl⟩ dX1_init_1 rfl ml_X1_3 im_objectInit cw_objectInit (Nat.le_of_ble_eq_true rfl) (Nat.le_of_ble_eq_true rfl) ?_
  refine V_aload_n 5 dX1_init_4 rfl rfl ?_
  refine V_bipush (v := 40) 7 dX1_init_5 rfl (by decide) ?_
  refine V_newaI 9 16 dX1_init_7 rfl rfl (by decide) rfl (Or.inr (Or.inl rfl)) wa_long (by decide) (by decide) (by decide) (Nat.le_of_ble_eq_true rfl) (Nat.le_of_ble_eq_true rfl) h1 ?_
  refine V_puta 12 1 0 fl_X1_9 dX1_init_9 rfl rfl (by decide) ⟨_, rfl⟩ (by decide) (Or.inr ⟨rfl, rfl⟩) ?_
  refine V_aload_n 13 dX1_init_12 rfl rfl ?_
  refine V_bipush (v := 40) 15 dX1_init_13 rfl (by decide) ?_
  refine V_newaI 17 17 dX1_init_15 rfl rfl (by decide) rfl (Or.inl rfl) wa_int (by decide) (by decide) (by decide) (Nat.le_of_ble_eq_true rfl) (Nat.le_of_ble_eq_true rfl) h2 ?_
  refine V_puta 20 1 1 fl_X1_15 dX1_init_17 rfl rfl (by decide) ⟨_, rfl⟩ (by decide) (Or.inr ⟨rfl, rfl⟩) ?_
  refine V_vret dX1_init_20 rfl ⟨rfl, ?_⟩ (by first | exact Nat.le_refl _ | decide | omega) (by first | exact Nat.le_refl _ | decide | omega)
  rfl
def f_4 (h : qH) : qH := qs_r (qs_n (qs_r (qs_n (qs_r (qs_n h 7) 6 0 0 (some (7, 0))) 8) 6 0 1 (some (8, 0))) 9) 6 0 2 (some (9, 0))
theorem ct_X4_init (h1 : qg_n h 7 = 0) (h2 : qg_n h 8 = 0) (h3 : qg_n h 9 = 0) : qM yX4_init cX4_init 1 none 1 20 3 900 [.inr (.inr (some (6, 0)))] h (pV fun h' => h' = f_4 h) := by
  refine qM.of (plainFor_of_name (by decide)) (Nat.le_of_ble_eq_true rfl) ?_
  refine V_aload_n 1 dX4_init_0 rfl rfl ?_
  refine V_objInit 4 ⟨_, rfl⟩ dX4_init_1 rfl ml_X4_3 im_objectInit cw_objectInit (Nat.le_of_ble_eq_true rfl) (Nat.le_of_ble_eq_true rfl) ?_
  refine V_aload_n 5 dX4_init_4 rfl rfl ?_
  refine V_sipush (v := 300) 8 dX4_init_5 rfl (by decide) ?_
  refine V_newaI 10 7 dX4_init_8 rfl rfl (by decide) rfl (Or.inr (Or.inl rfl)) wa_long (by decide) (by decide) (by decide) (Nat.le_of_ble_eq_true rfl) (Nat.le_of_ble_eq_true rfl) h1 ?_
  refine V_puta 13 4 0 fl_X4_9 dX4_init_10 rfl rfl (by decide) ⟨_, rfl⟩ (by decide) (Or.inr ⟨rfl, rfl⟩) ?_
  refine V_aload_n 14 dX4_init_13 rfl rfl ?_
  refine V_sipush (v := 300) 17 dX4_init_14 rfl (by decide) ?_
  refine V_newaI 19 8 dX4_init_17 rfl rfl (by decide) rfl (Or.inl rfl) wa_int (by decide) (by decide) (by decide) (Nat.le_of_ble_eq_true rfl) (Nat.le_of_ble_eq_true rfl) h2 ?_
  refine V_puta 22 4 1 fl_X4_15 dX4_init_19 rfl rfl (by decide) ⟨_, rfl⟩ (by decide) (Or.inr ⟨rfl, rfl⟩) ?_
  refine V_aload_n 23 dX4_init_22 rfl rfl ?_
  refine V_sipush (v := 300) 26 dX4_init_23 rfl (by decide) ?_
  refine V_newaI 28 9 dX4_init_26 rfl rfl (by decide) rfl (Or.inl rfl) wa_int (by decide) (by decide) (by decide) (Nat.le_of_ble_eq_true rfl) (Nat.le_of_ble_eq_true rfl) h3 ?_
  refine V_puta 31 4 2 fl_X4_19 dX4_init_28 rfl rfl (by decide) ⟨_, rfl⟩ (by decide) (Or.inr ⟨rfl, rfl⟩) ?_
  refine V_vret dX4_init_31 rfl ⟨rfl, ?_⟩ (by first | exact Nat.le_refl _ | decide | omega) (by first | exact Nat.le_refl _ | decide | omega)
  rfl
def f_3 (h : qH) (i : Nat) (t p : Int32) : qH := qs_i (qs_i (qs_r (qs_n (qs_r (qs_n (qs_r (qs_n (qs_r (qs_n h 29) 28 i 2 (some (29, i))) 30) 28 i 3 (some (30, i))) 31) 28 i 4 (some (31, i))) 32) 28 i 5 (some (32, i))) 28 i 0 t) 28 i 1 p
theorem ct_X3_init {i : Nat} {t p : Int32} (h1 : qg_n h 29 = i) (h2 : qg_n h 30 = i) (h3 : qg_n h 31 = i) (h4 : qg_n h 32 = i) : qM yX3_init cX3_init 3 none 1 20 4 84 [.inr (.inr (some (28, i))), .inl t, .inl p] h (pV fun h' => h' = f_3 h i t p) := by
  refine qM.of (plainFor_of_name (by decide)) (Nat.le_of_ble_eq_true rfl) ?_
  refine V_aload_n 1 dX3_init_0 rfl rfl ?_
  refine V_objInit 4 ⟨_, rfl⟩ dX3_init_1 rfl ml_X3_3 im_objectInit cw_objectInit (Nat.le_of_ble_eq_true rfl) (Nat.le_of_ble_eq_true rfl) ?_
  refine V_aload_n 5 dX3_init_4 rfl rfl ?_
  refine V_bipush (v := 21) 7 dX3_init_5 rfl (by decide) ?_
  refine V_newaI 9 29 dX3_init_7 rfl rfl (by decide) rfl (Or.inl rfl) wa_int (by decide) (by decide) (by decide) (Nat.le_of_ble_eq_true rfl) (Nat.le_of_ble_eq_true rfl) h1 ?_
  refine V_puta 12 3 2 fl_X3_9 dX3_init_9 rfl rfl (by decide) ⟨_, rfl⟩ (by decide) (Or.inr ⟨rfl, rfl⟩) ?_
  refine V_aload_n 13 dX3_init_12 rfl rfl ?_
  refine V_bipush (v := 21) 15 dX3_init_13 rfl (by decide) ?_
  refine V_newaI 17 30 dX3_init_15 rfl rfl (by decide) rfl (Or.inl rfl) wa_int (by decide) (by decide) (by decide) (Nat.le_of_ble_eq_true rfl) (Nat.le_of_ble_eq_true rfl) h2 ?_
  refine V_puta 20 3 3 fl_X3_15 dX3_init_17 rfl rfl (by decide) ⟨_, rfl⟩ (by decide) (Or.inr ⟨rfl, rfl⟩) ?_
  refine V_aload_n 21 dX3_init_20 rfl rfl ?_
  refine V_bipush (v := 21) 23 dX3_init_21 rfl (by decide) ?_
  refine V_newaI 25 31 dX3_init_23 rfl rfl (by decide) rfl (Or.inr (Or.inl rfl)) wa_long (by decide) (by decide) (by decide) (Nat.le_of_ble_eq_true rfl) (Nat.le_of_ble_eq_true rfl) h3 ?_
  refine V_puta 28 3 4 fl_X3_18 dX3_init_25 rfl rfl (by decide) ⟨_, rfl⟩ (by decide) (Or.inr ⟨rfl, rfl⟩) ?_
  refine V_aload_n 29 dX3_init_28 rfl rfl ?_
  refine V_bipush (v := 21) 31 dX3_init_29 rfl (by decide) ?_
  refine V_newaI 33 32 dX3_init_31 rfl rfl (by decide) rfl (Or.inr (Or.inl rfl)) wa_long (by decide) (by decide) (by decide) (Nat.le_of_ble_eq_true rfl) (Nat.le_of_ble_eq_true rfl) h4 ?_
  refine V_puta 36 3 5 fl_X3_22 dX3_init_33 rfl rfl (by decide) ⟨_, rfl⟩ (by decide) (Or.inr ⟨rfl, rfl⟩) ?_
  refine V_aload_n 37 dX3_init_36 rfl rfl ?_
  refine V_iload_n 38 dX3_init_37 rfl rfl ?_
  refine V_puti 41 3 0 fl_X3_25 dX3_init_38 rfl rfl (by decide) rfl (by decide) (Or.inr ⟨rfl, rfl⟩) ?_
  refine V_aload_n 42 dX3_init_41 rfl rfl ?_
  refine V_iload_n 43 dX3_init_42 rfl rfl ?_
  refine V_puti 46 3 1 fl_X3_29 dX3_init_43 rfl rfl (by decide) rfl (by decide) (Or.inr ⟨rfl, rfl⟩) ?_
  refine V_vret dX3_init_46 rfl ⟨rfl, ?_⟩ (by first | exact Nat.le_refl _ | decide | omega) (by first | exact Nat.le_refl _ | decide | omega)
  rfl
def f_2 (h : qH) (j : Nat) (o : Option (Nat × Nat)) (r u m : Int32) : qH := qs_i (qs_i (qs_i (qs_r (qs_i h 27 j 4 1) 27 j 0 o) 27 j 1 r) 27 j 2 u) 27 j 3 m
theorem ct_X2_init {j a : Nat} {r u m : Int32} : qM yX2_init cX2_init 5 none 1 20 0 0 [.inr (.inr (some (27, j))), .inr (.inr (some (22, a))), .inl r, .inl u, .inl m] h (pV fun h' => h' = f_2 h j (some (22, a)) r u m) := by
  refine qM.of (plainFor_of_name (by decide)) (Nat.le_of_ble_eq_true rfl) ?_
  refine V_aload_n 1 dX2_init_0 rfl rfl ?_
  refine V_objInit 4 ⟨_, rfl⟩ dX2_init_1 rfl ml_X2_1 im_objectInit cw_objectInit (Nat.le_of_ble_eq_true rfl) (Nat.le_of_ble_eq_true rfl) ?_
  refine V_aload_n 5 dX2_init_4 rfl rfl ?_
  refine V_iconst (v := 1) 6 dX2_init_5 rfl (by decide) ?_
  refine V_putz 9 2 4 fl_X2_7 dX2_init_6 rfl rfl (by decide) rfl (by decide) (Or.inr ⟨rfl, rfl⟩) rfl ?_
  refine V_aload_n 10 dX2_init_9 rfl rfl ?_
  refine V_aload_n 11 dX2_init_10 rfl rfl ?_
  refine V_puto 14 2 0 fl_X2_13 dX2_init_11 rfl rfl (by decide) ⟨_, rfl⟩ (by decide) (Or.inr ⟨rfl, rfl⟩) ?_
  refine V_aload_n 15 dX2_init_14 rfl rfl ?_
  refine V_iload_n 16 dX2_init_15 rfl rfl ?_
  refine V_puti 19 2 1 fl_X2_17 dX2_init_16 rfl rfl (by decide) rfl (by decide) (Or.inr ⟨rfl, rfl⟩) ?_
  refine V_aload_n 20 dX2_init_19 rfl rfl ?_
  refine V_iload_n 21 dX2_init_20 rfl rfl ?_
  refine V_puti 24 2 2 fl_X2_21 dX2_init_21 rfl rfl (by decide) rfl (by decide) (Or.inr ⟨rfl, rfl⟩) ?_
  refine V_aload_n 25 dX2_init_24 rfl rfl ?_
  refine V_iload 27 dX2_init_25 rfl rfl ?_
  refine V_puti 30 2 3 fl_X2_24 dX2_init_27 rfl rfl (by decide) rfl (by decide) (Or.inr ⟨rfl, rfl⟩) ?_
  refine V_vret dX2_init_30 rfl ⟨rfl, ?_⟩ (by first | exact Nat.le_refl _ | decide | omega) (by first | exact Nat.le_refl _ | decide | omega)
  rfl
def f_0a (h : qH) (a : Nat) (nm : Int32) (w o : Option (Nat × Nat)) : qH := qs_r (qs_r (qs_i (qs_r (qs_n (qs_r (qs_n (qs_r (f_mn h a) 22 a 3 (some (23, a))) 25) 22 a 4 (some (25, a))) 26) 22 a 5 (some (26, a))) 22 a 0 nm) 22 a 1 w) 22 a 2 o
def lm4 (g : qH) (a : Nat) : Nat → qH
  | 0 => g
  | k + 1 => qs_i (lm4 g a k) 26 a k (-1)
theorem lm4_r {g : qH} {a : Nat} : ∀ k, qg_r (lm4 g a k) = qg_r g
  | 0 => rfl
  | k + 1 => lm4_r k
theorem lp_X0_init {g : qH} {a : Nat} (h5 : qg_r g 22 a 5 = some (26, a)) {n0 : Nat → Nat} {Post : Option qV → qH → Prop} (hP : Post none (lm4 g a 4)) :
    ∀ (m k : Nat), k + m = 4 → Vw yX0_init cX0_init 5 none (qrm 1 20 7 412) 7 412 n0 Post 47 [(0, .inr (.inr (some (22, a)))), (4, .inl (nI k))] [] (lm4 g a k) 7 412 := by
  intro m
  induction m with
  | zero =>
    intro k hk
    have hk : k = 4 := by omega
    subst hk
    refine V_iload 49 dX0_init_47 rfl rfl ?_
    refine V_iconst (v := 4) 50 dX0_init_49 rfl (by decide) ?_
    refine V_icmp_ge 67 53 dX0_init_50 rfl rfl (fun c_50 => ?_) (fun c_50 => ?_)
    · skip
      refine V_vret dX0_init_67 rfl ?_ (by first | exact Nat.le_refl _ | decide | omega) (by first | exact Nat.le_refl _ | decide | omega)
      exact hP
    · skip
      exact absurd (by decide) c_50
  | succ m ih =>
    intro k hk
    refine V_iload 49 dX0_init_47 rfl rfl ?_
    refine V_iconst (v := 4) 50 dX0_init_49 rfl (by decide) ?_
    refine V_icmp_ge 67 53 dX0_init_50 rfl rfl (fun c_50 => ?_) (fun c_50 => ?_)
    · skip
      exact absurd c_50 (nI_ge (b := 4) (by omega) (by omega))
    · skip
      refine V_aload_n 54 dX0_init_53 rfl rfl ?_
      refine V_getR 57 0 5 fl_X0_20 dX0_init_54 rfl rfl (by decide) (Or.inr ⟨_, rfl⟩) (by decide) (show _ = some (26, a) by rw [lm4_r]; exact h5) ?_
      refine V_iload 59 dX0_init_57 rfl rfl ?_
      refine V_iconst (v := (-1)) 60 dX0_init_59 rfl (by decide) ?_
      refine V_iastN 61 (_) dX0_init_60 rfl rfl (by decide) rfl (show _ < 4 by omega) (by decide) ?_
      refine V_iincN 64 dX0_init_61 rfl rfl (by decide) ?_
      refine V_goto 47 dX0_init_64 rfl ?_
      exact V_at (ih (k + 1) (by omega)) ⟨rfl, rfl, trivial⟩
def f_0 (h : qH) (a : Nat) (nm : Int32) (w o : Option (Nat × Nat)) : qH := lm4 (f_0a h a nm w o) a 4
theorem ct_X0_init_n {a t : Nat} {nm : Int32} (h1 : qg_n h 23 = a) (h2 : qg_n h 24 = 4 * a) (h3 : qg_n h 25 = a) (h4 : qg_n h 26 = a) : qM yX0_init cX0_init 5 none 1 20 7 412 [.inr (.inr (some (22, a))), .inl nm, .inr (.inr (some (10, t))), .inr (.inr none)] h (pV fun h' => h' = f_0 h a nm (some (10, t)) none) := by
  refine qM.of (plainFor_of_name (by decide)) (Nat.le_of_ble_eq_true rfl) ?_
  refine V_aload_n 1 dX0_init_0 rfl rfl ?_
  refine V_objInit 4 ⟨_, rfl⟩ dX0_init_1 rfl ml_X0_3 im_objectInit cw_objectInit (Nat.le_of_ble_eq_true rfl) (Nat.le_of_ble_eq_true rfl) ?_
  refine V_aload_n 5 dX0_init_4 rfl rfl ?_
  refine V_iconst (v := 4) 6 dX0_init_5 rfl (by decide) ?_
  refine V_bipush (v := 100) 8 dX0_init_6 rfl (by decide) ?_
  refine V_mna 12 dX0_init_8 rfl wk_X0_9 wa_long h1 h2 (Nat.le_of_ble_eq_true rfl) (Nat.le_of_ble_eq_true rfl) ?_
  refine V_puta 15 0 3 fl_X0_11 dX0_init_12 rfl rfl (by decide) ⟨_, rfl⟩ (by decide) (Or.inr ⟨rfl, rfl⟩) ?_
  refine V_aload_n 16 dX0_init_15 rfl rfl ?_
  refine V_iconst (v := 4) 17 dX0_init_16 rfl (by decide) ?_
  refine V_newaI 19 25 dX0_init_17 rfl rfl (by decide) rfl (Or.inl rfl) wa_int (by decide) (by decide) (by decide) (Nat.le_of_ble_eq_true rfl) (Nat.le_of_ble_eq_true rfl) h3 ?_
  refine V_puta 22 0 4 fl_X0_16 dX0_init_19 rfl rfl (by decide) ⟨_, rfl⟩ (by decide) (Or.inr ⟨rfl, rfl⟩) ?_
  refine V_aload_n 23 dX0_init_22 rfl rfl ?_
  refine V_iconst (v := 4) 24 dX0_init_23 rfl (by decide) ?_
  refine V_newaI 26 26 dX0_init_24 rfl rfl (by decide) rfl (Or.inl rfl) wa_int (by decide) (by decide) (by decide) (Nat.le_of_ble_eq_true rfl) (Nat.le_of_ble_eq_true rfl) h4 ?_
  refine V_puta 29 0 5 fl_X0_20 dX0_init_26 rfl rfl (by decide) ⟨_, rfl⟩ (by decide) (Or.inr ⟨rfl, rfl⟩) ?_
  refine V_aload_n 30 dX0_init_29 rfl rfl ?_
  refine V_iload_n 31 dX0_init_30 rfl rfl ?_
  refine V_puti 34 0 0 fl_X0_23 dX0_init_31 rfl rfl (by decide) rfl (by decide) (Or.inr ⟨rfl, rfl⟩) ?_
  refine V_aload_n 35 dX0_init_34 rfl rfl ?_
  refine V_aload_n 36 dX0_init_35 rfl rfl ?_
  refine V_puto 39 0 1 fl_X0_27 dX0_init_36 rfl rfl (by decide) ⟨_, rfl⟩ (by decide) (Or.inr ⟨rfl, rfl⟩) ?_
  refine V_aload_n 40 dX0_init_39 rfl rfl ?_
  refine V_aload_n 41 dX0_init_40 rfl rfl ?_
  refine V_puto 44 0 2 fl_X0_31 dX0_init_41 rfl rfl (by decide) ⟨_, rfl⟩ (by decide) (Or.inr ⟨rfl, rfl⟩) ?_
  refine V_iconst (v := 0) 45 dX0_init_44 rfl (by decide) ?_
  refine V_istore 47 dX0_init_45 rfl (by decide) ?_
  refine V_cnt (cells' := 7) (slots' := 412) rfl rfl (V_at (lp_X0_init (g := f_0a h a nm (some (10, t)) none) (by simp [f_0a, qrr, qri, qrn]) ⟨rfl, rfl⟩ 4 0 (by omega)) ⟨rfl, rfl, trivial⟩)
theorem ct_X0_init_s {a t b : Nat} {nm : Int32} (h1 : qg_n h 23 = a) (h2 : qg_n h 24 = 4 * a) (h3 : qg_n h 25 = a) (h4 : qg_n h 26 = a) : qM yX0_init cX0_init 5 none 1 20 7 412 [.inr (.inr (some (22, a))), .inl nm, .inr (.inr (some (10, t))), .inr (.inr (some (22, b)))] h (pV fun h' => h' = f_0 h a nm (some (10, t)) (some (22, b))) := by
  refine qM.of (plainFor_of_name (by decide)) (Nat.le_of_ble_eq_true rfl) ?_
  refine V_aload_n 1 dX0_init_0 rfl rfl ?_
  refine V_objInit 4 ⟨_, rfl⟩ dX0_init_1 rfl ml_X0_3 im_objectInit cw_objectInit (Nat.le_of_ble_eq_true rfl) (Nat.le_of_ble_eq_true rfl) ?_
  refine V_aload_n 5 dX0_init_4 rfl rfl ?_
  refine V_iconst (v := 4) 6 dX0_init_5 rfl (by decide) ?_
  refine V_bipush (v := 100) 8 dX0_init_6 rfl (by decide) ?_
  refine V_mna 12 dX0_init_8 rfl wk_X0_9 wa_long h1 h2 (Nat.le_of_ble_eq_true rfl) (Nat.le_of_ble_eq_true rfl) ?_
  refine V_puta 15 0 3 fl_X0_11 dX0_init_12 rfl rfl (by decide) ⟨_, rfl⟩ (by decide) (Or.inr ⟨rfl, rfl⟩) ?_
  refine V_aload_n 16 dX0_init_15 rfl rfl ?_
  refine V_iconst (v := 4) 17 dX0_init_16 rfl (by decide) ?_
  refine V_newaI 19 25 dX0_init_17 rfl rfl (by decide) rfl (Or.inl rfl) wa_int (by decide) (by decide) (by decide) (Nat.le_of_ble_eq_true rfl) (Nat.le_of_ble_eq_true rfl) h3 ?_
  refine V_puta 22 0 4 fl_X0_16 dX0_init_19 rfl rfl (by decide) ⟨_, rfl⟩ (by decide) (Or.inr ⟨rfl, rfl⟩) ?_
  refine V_aload_n 23 dX0_init_22 rfl rfl ?_
  refine V_iconst (v := 4) 24 dX0_init_23 rfl (by decide) ?_
  refine V_newaI 26 26 dX0_init_24 rfl rfl (by decide) rfl (Or.inl rfl) wa_int (by decide) (by decide) (by decide) (Nat.le_of_ble_eq_true rfl) (Nat.le_of_ble_eq_true rfl) h4 ?_
  refine V_puta 29 0 5 fl_X0_20 dX0_init_26 rfl rfl (by decide) ⟨_, rfl⟩ (by decide) (Or.inr ⟨rfl, rfl⟩) ?_
  refine V_aload_n 30 dX0_init_29 rfl rfl ?_
  refine V_iload_n 31 dX0_init_30 rfl rfl ?_
  refine V_puti 34 0 0 fl_X0_23 dX0_init_31 rfl rfl (by decide) rfl (by decide) (Or.inr ⟨rfl, rfl⟩) ?_
  refine V_aload_n 35 dX0_init_34 rfl rfl ?_
  refine V_aload_n 36 dX0_init_35 rfl rfl ?_
  refine V_puto 39 0 1 fl_X0_27 dX0_init_36 rfl rfl (by decide) ⟨_, rfl⟩ (by decide) (Or.inr ⟨rfl, rfl⟩) ?_
  refine V_aload_n 40 dX0_init_39 rfl rfl ?_
  refine V_aload_n 41 dX0_init_40 rfl rfl ?_
  refine V_puto 44 0 2 fl_X0_31 dX0_init_41 rfl rfl (by decide) ⟨_, rfl⟩ (by decide) (Or.inr ⟨rfl, rfl⟩) ?_
  refine V_iconst (v := 0) 45 dX0_init_44 rfl (by decide) ?_
  refine V_istore 47 dX0_init_45 rfl (by decide) ?_
  refine V_cnt (cells' := 7) (slots' := 412) rfl rfl (V_at (lp_X0_init (g := f_0a h a nm (some (10, t)) (some (22, b))) (by simp [f_0a, qrr, qri, qrn]) ⟨rfl, rfl⟩ 4 0 (by omega)) ⟨rfl, rfl, trivial⟩)
def f_6a (h : qH) (t : Nat) : qH := qs_i (qs_r (f_1 (qs_n (qs_r (qs_n (qs_r (qs_n (qs_r (qs_n (qs_r (qs_n h 11) 10 t 1 (some (11, t))) 12) 10 t 2 (some (12, t))) 13) 10 t 3 (some (13, t))) 14) 10 t 4 (some (14, t))) 15) t) 10 t 5 (some (15, t))) 10 t 0 (nI t)
def f_6b (g : qH) (t k : Nat) : qH := qs_r (f_5 (qs_n g 18) (8 * t + 2 * k)) 11 t k (some (18, 8 * t + 2 * k))
def f_6 (g : qH) (t : Nat) : Nat → qH
  | 0 => g
  | k + 1 => qs_r (f_5 (qs_n (f_6b (f_6 g t k) t k) 18) (8 * t + 2 * k + 1)) 12 t k (some (18, 8 * t + 2 * k + 1))
theorem f6_r {g : qH} {t : Nat} : ∀ k, qg_r (f_6 g t k) 10 = qg_r g 10
  | 0 => rfl
  | k + 1 => f6_r (g := g) (t := t) k
theorem f6_n {g : qH} {t n : Nat} (h1 : qg_n g 18 = n) (h2 : qg_n g 19 = n) (h3 : qg_n g 20 = n) (h4 : qg_n g 21 = n) : ∀ k, (qg_n (f_6 g t k) 18 = n + 2 * k ∧ qg_n (f_6 g t k) 19 = n + 2 * k ∧ qg_n (f_6 g t k) 20 = n + 2 * k ∧ qg_n (f_6 g t k) 21 = n + 2 * k) ∧ ∀ r, ¬ (18 ≤ r ∧ r ≤ 21) → qg_n (f_6 g t k) r = qg_n g r
  | 0 => ⟨⟨h1, h2, h3, h4⟩, fun _ _ => rfl⟩
  | k + 1 => by
    obtain ⟨⟨a1, a2, a3, a4⟩, a5⟩ := f6_n (t := t) h1 h2 h3 h4 k
    refine ⟨⟨?_, ?_, ?_, ?_⟩, fun r hr => ?_⟩
    · show qg_n (f_6 g t k) 18 + 1 + 1 = _
      omega
    · show qg_n (f_6 g t k) 19 + 1 + 1 = _
      omega
    · show qg_n (f_6 g t k) 20 + 1 + 1 = _
      omega
    · show qg_n (f_6 g t k) 21 + 1 + 1 = _
      omega
    · rw [← a5 r hr]
      have q1 : r ≠ 18 := by omega
      have q2 : r ≠ 19 := by omega
      have q3 : r ≠ 20 := by omega
      have q4 : r ≠ 21 := by omega
      simp [f_6, f_6b, f_5, qnn, qni, qnl, qnr, q1, q2, q3, q4]
theorem lp_X6_init {g : qH} {t : Nat} (r1 : qg_r g 10 t 1 = some (11, t)) (r2 : qg_r g 10 t 2 = some (12, t)) (h1 : qg_n g 18 = 8 * t) (h2 : qg_n g 19 = 8 * t) (h3 : qg_n g 20 = 8 * t) (h4 : qg_n g 21 = 8 * t) {n0 : Nat → Nat} {Post : Option qV → qH → Prop} (hP : Post none (f_6 g t 4)) :
    ∀ (m k : Nat), k + m = 4 → Vw yX6_init cX6_init 3 none (qrm 2 40 39 267) 39 267 n0 Post 52 [(0, .inr (.inr (some (10, t)))), (2, .inl (nI k))] [] (f_6 g t k) (7 + 8 * k) (99 + 42 * k) := by
  intro m
  induction m with
  | zero =>
    intro k hk
    have hk : k = 4 := by omega
    subst hk
    refine V_iload_n 53 dX6_init_52 rfl rfl ?_
    refine V_iconst (v := 4) 54 dX6_init_53 rfl (by decide) ?_
    refine V_icmp_ge 89 57 dX6_init_54 rfl rfl (fun c_54 => ?_) (fun c_54 => ?_)
    · skip
      refine V_vret dX6_init_89 rfl ?_ (by first | exact Nat.le_refl _ | decide | omega) (by first | exact Nat.le_refl _ | decide | omega)
      exact hP
    · skip
      exact absurd (by decide) c_54
  | succ m ih =>
    intro k hk
    obtain ⟨⟨a1, a2, a3, a4⟩, -⟩ := f6_n (t := t) h1 h2 h3 h4 k
    refine V_iload_n 53 dX6_init_52 rfl rfl ?_
    refine V_iconst (v := 4) 54 dX6_init_53 rfl (by decide) ?_
    refine V_icmp_ge 89 57 dX6_init_54 rfl rfl (fun c_54 => ?_) (fun c_54 => ?_)
    · skip
      exact absurd c_54 (nI_ge (b := 4) (by omega) (by omega))
    · skip
      refine V_aload_n 58 dX6_init_57 rfl rfl ?_
      refine V_getR 61 6 1 fl_X6_11 dX6_init_58 rfl rfl (by decide) (Or.inr ⟨_, rfl⟩) (by decide) (show _ = some (11, t) by rw [f6_r]; exact r1) ?_
      refine V_iload_n 62 dX6_init_61 rfl rfl ?_
      refine V_newI 65 18 5 dX6_init_62 rfl rfl (by decide) (by decide) wk_X6_9 wn_X5 wi_X5 (by dsimp only [qrm]; have := rN5; have := rN6; omega) (by dsimp only [qrm]; have := rN5; have := rN6; omega) (by decide) a1 ?_
      refine V_dup 66 dX6_init_65 rfl ?_
      refine V_cI0v 69 (ct_X5_init (p := 8 * t + 2 * k) a2 a3 a4) cs_X6_38 dX6_init_66 rfl ⟨Nat.le_of_ble_eq_true rfl, Nat.le_of_ble_eq_true rfl⟩ (Nat.le_of_ble_eq_true rfl) ⟨by dsimp only [qrm]; have := rN5; have := rN6; omega, by dsimp only [qrm]; have := rN5; have := rN6; omega⟩ (fun h' hx hle => ?_)
      obtain rfl := hx
      refine V_cnt (cells' := 11 + 8 * k) (slots' := 120 + 42 * k) (by omega) (by have := rN5; have := rN6; omega) ?_
      refine V_aastN 70 (_) dX6_init_69 rfl rfl rfl (by decide) (by decide) rfl (show _ < 4 by omega) (by decide) ?_
      refine V_heap (h2 := f_6b (f_6 g t k) t k) rfl ?_
      refine V_aload_n 71 dX6_init_70 rfl rfl ?_
      refine V_getR 74 6 2 fl_X6_17 dX6_init_71 rfl rfl (by decide) (Or.inr ⟨_, rfl⟩) (by decide) (show qg_r (f_6 g t k) 10 t 2 = some (12, t) by rw [f6_r]; exact r2) ?_
      refine V_iload_n 75 dX6_init_74 rfl rfl ?_
      refine V_newI 78 18 5 dX6_init_75 rfl rfl (by decide) (by decide) wk_X6_9 wn_X5 wi_X5 (by dsimp only [qrm]; have := rN5; have := rN6; omega) (by dsimp only [qrm]; have := rN5; have := rN6; omega) (by decide) (show qg_n (f_6 g t k) 18 + 1 = 8 * t + 2 * k + 1 by omega) ?_
      refine V_dup 79 dX6_init_78 rfl ?_
      refine V_cI0v 82 (ct_X5_init (p := 8 * t + 2 * k + 1) (show qg_n (f_6 g t k) 19 + 1 = _ by omega) (show qg_n (f_6 g t k) 20 + 1 = _ by omega) (show qg_n (f_6 g t k) 21 + 1 = _ by omega)) cs_X6_38 dX6_init_79 rfl ⟨Nat.le_of_ble_eq_true rfl, Nat.le_of_ble_eq_true rfl⟩ (Nat.le_of_ble_eq_true rfl) ⟨by dsimp only [qrm]; have := rN5; have := rN6; omega, by dsimp only [qrm]; have := rN5; have := rN6; omega⟩ (fun h' hx hle => ?_)
      obtain rfl := hx
      refine V_cnt (cells' := 7 + 8 * (k + 1)) (slots' := 99 + 42 * (k + 1)) (by omega) (by have := rN5; have := rN6; omega) ?_
      refine V_aastN 83 (_) dX6_init_82 rfl rfl rfl (by decide) (by decide) rfl (show _ < 4 by omega) (by decide) ?_
      refine V_iincN 86 dX6_init_83 rfl rfl (by decide) ?_
      refine V_goto 52 dX6_init_86 rfl ?_
      exact V_at (ih (k + 1) (by omega)) ⟨rfl, rfl, trivial⟩
theorem ct_X6_init {t : Nat} (h11 : qg_n h 11 = t) (h12 : qg_n h 12 = t) (h13 : qg_n h 13 = t) (h14 : qg_n h 14 = t) (h15 : qg_n h 15 = t) (h16 : qg_n h 16 = t) (h17 : qg_n h 17 = t) (h18 : qg_n h 18 = 8 * t) (h19 : qg_n h 19 = 8 * t) (h20 : qg_n h 20 = 8 * t) (h21 : qg_n h 21 = 8 * t) : qM yX6_init cX6_init 3 none 2 40 39 267 [.inr (.inr (some (10, t))), .inl (nI t)] h (pV fun h' => h' = f_6 (f_6a h t) t 4) := by
  refine qM.of (plainFor_of_name (by decide)) (Nat.le_of_ble_eq_true rfl) ?_
  refine V_aload_n 1 dX6_init_0 rfl rfl ?_
  refine V_objInit 4 ⟨_, rfl⟩ dX6_init_1 rfl ml_X6_3 im_objectInit cw_objectInit (Nat.le_of_ble_eq_true rfl) (Nat.le_of_ble_eq_true rfl) ?_
  refine V_aload_n 5 dX6_init_4 rfl rfl ?_
  refine V_iconst (v := 4) 6 dX6_init_5 rfl (by decide) ?_
  refine V_anewaI 9 11 (C := "QuotaMeter$Prices") dX6_init_6 rfl rfl (by decide) wk_X6_9 ao_Prices (by decide) (by decide) (by decide) (Nat.le_of_ble_eq_true rfl) (Nat.le_of_ble_eq_true rfl) h11 ?_
  refine V_puta 12 6 1 fl_X6_11 dX6_init_9 rfl rfl (by decide) ⟨_, rfl⟩ (by decide) (Or.inr ⟨rfl, rfl⟩) ?_
  refine V_aload_n 13 dX6_init_12 rfl rfl ?_
  refine V_iconst (v := 4) 14 dX6_init_13 rfl (by decide) ?_
  refine V_anewaI 17 12 (C := "QuotaMeter$Prices") dX6_init_14 rfl rfl (by decide) wk_X6_9 ao_Prices (by decide) (by decide) (by decide) (Nat.le_of_ble_eq_true rfl) (Nat.le_of_ble_eq_true rfl) h12 ?_
  refine V_puta 20 6 2 fl_X6_17 dX6_init_17 rfl rfl (by decide) ⟨_, rfl⟩ (by decide) (Or.inr ⟨rfl, rfl⟩) ?_
  refine V_aload_n 21 dX6_init_20 rfl rfl ?_
  refine V_iconst (v := 4) 22 dX6_init_21 rfl (by decide) ?_
  refine V_newaI 24 13 dX6_init_22 rfl rfl (by decide) rfl (Or.inr (Or.inl rfl)) wa_long (by decide) (by decide) (by decide) (Nat.le_of_ble_eq_true rfl) (Nat.le_of_ble_eq_true rfl) h13 ?_
  refine V_puta 27 6 3 fl_X6_20 dX6_init_24 rfl rfl (by decide) ⟨_, rfl⟩ (by decide) (Or.inr ⟨rfl, rfl⟩) ?_
  refine V_aload_n 28 dX6_init_27 rfl rfl ?_
  refine V_iconst (v := 4) 29 dX6_init_28 rfl (by decide) ?_
  refine V_newaI 31 14 dX6_init_29 rfl rfl (by decide) rfl (Or.inr (Or.inl rfl)) wa_long (by decide) (by decide) (by decide) (Nat.le_of_ble_eq_true rfl) (Nat.le_of_ble_eq_true rfl) h14 ?_
  refine V_puta 34 6 4 fl_X6_24 dX6_init_31 rfl rfl (by decide) ⟨_, rfl⟩ (by decide) (Or.inr ⟨rfl, rfl⟩) ?_
  refine V_aload_n 35 dX6_init_34 rfl rfl ?_
  refine V_newI 38 15 1 dX6_init_35 rfl rfl (by decide) (by decide) wk_X6_27 wn_X1 wi_X1 (Nat.le_of_ble_eq_true rfl) (Nat.le_of_ble_eq_true rfl) (by decide) h15 ?_
  refine V_dup 39 dX6_init_38 rfl ?_
  refine V_cN0v 42 (ct_X1_init h16 h17) cs_X6_29 dX6_init_39 rfl ⟨Nat.le_of_ble_eq_true rfl, Nat.le_of_ble_eq_true rfl⟩ (Nat.le_of_ble_eq_true rfl) ⟨Nat.le_of_ble_eq_true rfl, Nat.le_of_ble_eq_true rfl⟩ (fun h' hx hle => ?_)
  obtain rfl := hx
  refine V_puto 45 6 5 fl_X6_30 dX6_init_42 rfl rfl (by decide) ⟨_, rfl⟩ (by decide) (Or.inr ⟨rfl, rfl⟩) ?_
  refine V_aload_n 46 dX6_init_45 rfl rfl ?_
  refine V_iload_n 47 dX6_init_46 rfl rfl ?_
  refine V_puti 50 6 0 fl_X6_34 dX6_init_47 rfl rfl (by decide) rfl (by decide) (Or.inr ⟨rfl, rfl⟩) ?_
  refine V_iconst (v := 0) 51 dX6_init_50 rfl (by decide) ?_
  refine V_istore_n 52 dX6_init_51 rfl (by decide) ?_
  refine V_cnt (cells' := 7 + 8 * 0) (slots' := 99 + 42 * 0) rfl rfl (V_at (lp_X6_init (g := f_6a h t) (by simp [f_6a, f_1, qrr, qri, qrn]) (by simp [f_6a, f_1, qrr, qri, qrn]) h18 h19 h20 h21 ⟨rfl, rfl⟩ 4 0 (by omega)) ⟨rfl, rfl, trivial⟩)
def f_7a (h : qH) : qH := qs_r (f_4 (qs_n (qs_r (qs_n (qs_r (qs_n (qs_r (qs_n (qs_r (qs_n h 2) 1 0 0 (some (2, 0))) 3) 1 0 1 (some (3, 0))) 4) 1 0 2 (some (4, 0))) 5) 1 0 3 (some (5, 0))) 6)) 1 0 4 (some (6, 0))
def f_7b (g : qH) (t : Nat) : qH := f_6 (f_6a (qs_n g 10) t) t 4
def f_7 (g : qH) : Nat → qH
  | 0 => g
  | t + 1 => qs_r (f_7b (f_7 g t) t) 2 0 t (some (10, t))
theorem f7_r {g : qH} : ∀ t, qg_r (f_7 g t) 1 = qg_r g 1
  | 0 => rfl
  | t + 1 => f7_r (g := g) t
def nC (g : qH) (t : Nat) : Prop := (∀ r, 10 ≤ r → r ≤ 17 → qg_n g r = t) ∧ qg_n g 18 = 8 * t ∧ qg_n g 19 = 8 * t ∧ qg_n g 20 = 8 * t ∧ qg_n g 21 = 8 * t
theorem f6a_n {g : qH} {t r : Nat} : qg_n (f_6a g t) r = if 11 ≤ r ∧ r ≤ 17 then qg_n g r + 1 else qg_n g r := by
  by_cases q : 11 ≤ r ∧ r ≤ 17
  · rw [if_pos q]
    rcases (show r = 11 ∨ r = 12 ∨ r = 13 ∨ r = 14 ∨ r = 15 ∨ r = 16 ∨ r = 17 by omega) with rfl | rfl | rfl | rfl | rfl | rfl | rfl <;> rfl
  · rw [if_neg q]
    have q1 : r ≠ 11 := by omega
    have q2 : r ≠ 12 := by omega
    have q3 : r ≠ 13 := by omega
    have q4 : r ≠ 14 := by omega
    have q5 : r ≠ 15 := by omega
    have q6 : r ≠ 16 := by omega
    have q7 : r ≠ 17 := by omega
    simp [f_6a, f_1, qnn, qni, qnl, qnr, q1, q2, q3, q4, q5, q6, q7]
theorem f7b_n {g : qH} {t : Nat} (C : nC g t) : nC (f_7b g t) (t + 1) ∧ ∀ r, ¬ (10 ≤ r ∧ r ≤ 21) → qg_n (f_7b g t) r = qg_n g r := by
  obtain ⟨c1, c2, c3, c4, c5⟩ := C
  have e : ∀ r, ¬ (11 ≤ r ∧ r ≤ 17) → r ≠ 10 → qg_n (f_6a (qs_n g 10) t) r = qg_n g r := fun r q1 q2 => by rw [f6a_n, if_neg q1, qnn, if_neg q2]
  obtain ⟨⟨a1, a2, a3, a4⟩, a5⟩ := f6_n (g := f_6a (qs_n g 10) t) (t := t) ((e 18 (by decide) (by decide)).trans c2) ((e 19 (by decide) (by decide)).trans c3) ((e 20 (by decide) (by decide)).trans c4) ((e 21 (by decide) (by decide)).trans c5) 4
  refine ⟨⟨fun r q1 q2 => ?_, ?_, ?_, ?_, ?_⟩, fun r q => ?_⟩
  · show qg_n (f_6 (f_6a (qs_n g 10) t) t 4) r = _
    rw [a5 r (by omega), f6a_n]
    have := c1 r q1 q2
    split
    · rw [qnn, if_neg (by omega), this]
    · have : r = 10 := by omega
      subst this
      rw [qnn, if_pos rfl, c1 10 (by decide) (by decide)]
  · show qg_n (f_6 (f_6a (qs_n g 10) t) t 4) 18 = _
    omega
  · show qg_n (f_6 (f_6a (qs_n g 10) t) t 4) 19 = _
    omega
  · show qg_n (f_6 (f_6a (qs_n g 10) t) t 4) 20 = _
    omega
  · show qg_n (f_6 (f_6a (qs_n g 10) t) t 4) 21 = _
    omega
  · show qg_n (f_6 (f_6a (qs_n g 10) t) t 4) r = _
    rw [a5 r (by omega), f6a_n, if_neg (by omega), qnn, if_neg (by omega)]
theorem f7_n {g : qH} (C : nC g 0) : ∀ t, nC (f_7 g t) t ∧ ∀ r, ¬ (10 ≤ r ∧ r ≤ 21) → qg_n (f_7 g t) r = qg_n g r
  | 0 => ⟨C, fun _ _ => rfl⟩
  | t + 1 => by
    obtain ⟨a1, a2⟩ := f7_n C t
    obtain ⟨b1, b2⟩ := f7b_n a1
    exact ⟨b1, fun r q => (b2 r q).trans (a2 r q)⟩
theorem lp_X7_init {g : qH} (r0 : qg_r g 1 0 0 = some (2, 0)) (C : nC g 0) {n0 : Nat → Nat} {Post : Option qV → qH → Prop} (hP : Post none (f_7 g 6)) :
    ∀ (m t : Nat), t + m = 6 → Vw yX7_init cX7_init 2 none (qrm 3 62 248 2856) 248 2856 n0 Post 54 [(0, .inr (.inr (some (1, 0)))), (1, .inl (nI t))] [] (f_7 g t) (8 + 40 * t) (1194 + 277 * t) := by
  intro m
  induction m with
  | zero =>
    intro t ht
    have ht : t = 6 := by omega
    subst ht
    refine V_iload_n 55 dX7_init_54 rfl rfl ?_
    refine V_bipush (v := 6) 57 dX7_init_55 rfl (by decide) ?_
    refine V_icmp_ge 80 60 dX7_init_57 rfl rfl (fun c_57 => ?_) (fun c_57 => ?_)
    · skip
      refine V_vret dX7_init_80 rfl ?_ (by first | exact Nat.le_refl _ | decide | omega) (by first | exact Nat.le_refl _ | decide | omega)
      exact hP
    · skip
      exact absurd (by decide) c_57
  | succ m ih =>
    intro t ht
    obtain ⟨⟨c1, c2, c3, c4, c5⟩, -⟩ := f7_n C t
    refine V_iload_n 55 dX7_init_54 rfl rfl ?_
    refine V_bipush (v := 6) 57 dX7_init_55 rfl (by decide) ?_
    refine V_icmp_ge 80 60 dX7_init_57 rfl rfl (fun c_57 => ?_) (fun c_57 => ?_)
    · skip
      exact absurd c_57 (nI_ge (b := 6) (by omega) (by omega))
    · skip
      refine V_aload_n 61 dX7_init_60 rfl rfl ?_
      refine V_getR 64 7 0 fl_X7_11 dX7_init_61 rfl rfl (by decide) (Or.inr ⟨_, rfl⟩) (by decide) (show _ = some (2, 0) by rw [f7_r]; exact r0) ?_
      refine V_iload_n 65 dX7_init_64 rfl rfl ?_
      refine V_newI 68 10 6 dX7_init_65 rfl rfl (by decide) (by decide) wk_X7_9 wn_X6 wi_X6 (by dsimp only [qrm]; have := rN5; have := rN6; omega) (by dsimp only [qrm]; have := rN5; have := rN6; omega) (by decide) (c1 10 (by decide) (by decide)) ?_
      refine V_dup 69 dX7_init_68 rfl ?_
      refine V_iload_n 70 dX7_init_69 rfl rfl ?_
      refine V_cI1v 73 (ct_X6_init (c1 11 (by decide) (by decide)) (c1 12 (by decide) (by decide)) (c1 13 (by decide) (by decide)) (c1 14 (by decide) (by decide)) (c1 15 (by decide) (by decide)) (c1 16 (by decide) (by decide)) (c1 17 (by decide) (by decide)) c2 c3 c4 c5) cs_X7_40 dX7_init_70 rfl ⟨Nat.le_of_ble_eq_true rfl, Nat.le_of_ble_eq_true rfl⟩ (Nat.le_of_ble_eq_true rfl) ⟨by dsimp only [qrm]; have := rN5; have := rN6; omega, by dsimp only [qrm]; have := rN5; have := rN6; omega⟩ (fun h' hx hle => ?_)
      obtain rfl := hx
      refine V_cnt (cells' := 8 + 40 * (t + 1)) (slots' := 1194 + 277 * (t + 1)) (by omega) (by have := rN5; have := rN6; omega) ?_
      refine V_aastN 74 (_) dX7_init_73 rfl rfl rfl (by decide) (by decide) rfl (show _ < 6 by omega) (by decide) ?_
      refine V_iincN 77 dX7_init_74 rfl rfl (by decide) ?_
      refine V_goto 54 dX7_init_77 rfl ?_
      exact V_at (ih (t + 1) (by omega)) ⟨rfl, rfl, trivial⟩
theorem ct_X7_init (hz : ∀ r, 2 ≤ r → r ≤ 60 → qg_n h r = 0) : qM yX7_init cX7_init 2 none 3 62 248 2856 [.inr (.inr (some (1, 0)))] h (pV fun h' => h' = f_7 (f_7a h) 6) := by
  have C : nC (f_7a h) 0 := ⟨fun r q1 q2 => by
    rw [← hz r (by omega) (by omega)]
    have w1 : r ≠ 2 := by omega
    have w2 : r ≠ 3 := by omega
    have w3 : r ≠ 4 := by omega
    have w4 : r ≠ 5 := by omega
    have w5 : r ≠ 6 := by omega
    have w6 : r ≠ 7 := by omega
    have w7 : r ≠ 8 := by omega
    have w8 : r ≠ 9 := by omega
    simp [f_7a, f_4, qnn, qni, qnl, qnr, w1, w2, w3, w4, w5, w6, w7, w8], hz 18 (by decide) (by decide), hz 19 (by decide) (by decide), hz 20 (by decide) (by decide), hz 21 (by decide) (by decide)⟩
  refine qM.of (plainFor_of_name (by decide)) (Nat.le_of_ble_eq_true rfl) ?_
  refine V_aload_n 1 dX7_init_0 rfl rfl ?_
  refine V_objInit 4 ⟨_, rfl⟩ dX7_init_1 rfl ml_X7_3 im_objectInit cw_objectInit (Nat.le_of_ble_eq_true rfl) (Nat.le_of_ble_eq_true rfl) ?_
  refine V_aload_n 5 dX7_init_4 rfl rfl ?_
  refine V_bipush (v := 6) 7 dX7_init_5 rfl (by decide) ?_
  refine V_anewaI 10 2 (C := "QuotaMeter$Tenant") dX7_init_7 rfl rfl (by decide) wk_X7_9 ao_Tenant (by decide) (by decide) (by decide) (Nat.le_of_ble_eq_true rfl) (Nat.le_of_ble_eq_true rfl) (hz 2 (by decide) (by decide)) ?_
  refine V_puta 13 7 0 fl_X7_11 dX7_init_10 rfl rfl (by decide) ⟨_, rfl⟩ (by decide) (Or.inr ⟨rfl, rfl⟩) ?_
  refine V_aload_n 14 dX7_init_13 rfl rfl ?_
  refine V_bipush (v := 24) 16 dX7_init_14 rfl (by decide) ?_
  refine V_anewaI 19 3 (C := "QuotaMeter$Account") dX7_init_16 rfl rfl (by decide) wk_X7_15 ao_Account (by decide) (by decide) (by decide) (Nat.le_of_ble_eq_true rfl) (Nat.le_of_ble_eq_true rfl) (hz 3 (by decide) (by decide)) ?_
  refine V_puta 22 7 1 fl_X7_17 dX7_init_19 rfl rfl (by decide) ⟨_, rfl⟩ (by decide) (Or.inr ⟨rfl, rfl⟩) ?_
  refine V_aload_n 23 dX7_init_22 rfl rfl ?_
  refine V_sipush (v := 200) 26 dX7_init_23 rfl (by decide) ?_
  refine V_anewaI 29 4 (C := "QuotaMeter$Hold") dX7_init_26 rfl rfl (by decide) wk_X7_21 ao_Hold (by decide) (by decide) (by decide) (Nat.le_of_ble_eq_true rfl) (Nat.le_of_ble_eq_true rfl) (hz 4 (by decide) (by decide)) ?_
  refine V_puta 32 7 2 fl_X7_23 dX7_init_29 rfl rfl (by decide) ⟨_, rfl⟩ (by decide) (Or.inr ⟨rfl, rfl⟩) ?_
  refine V_aload_n 33 dX7_init_32 rfl rfl ?_
  refine V_bipush (v := 60) 35 dX7_init_33 rfl (by decide) ?_
  refine V_anewaI 38 5 (C := "QuotaMeter$Invoice") dX7_init_35 rfl rfl (by decide) wk_X7_27 ao_Invoice (by decide) (by decide) (by decide) (Nat.le_of_ble_eq_true rfl) (Nat.le_of_ble_eq_true rfl) (hz 5 (by decide) (by decide)) ?_
  refine V_puta 41 7 3 fl_X7_29 dX7_init_38 rfl rfl (by decide) ⟨_, rfl⟩ (by decide) (Or.inr ⟨rfl, rfl⟩) ?_
  refine V_aload_n 42 dX7_init_41 rfl rfl ?_
  refine V_newI 45 6 4 dX7_init_42 rfl rfl (by decide) (by decide) wk_X7_33 wn_X4 wi_X4 (Nat.le_of_ble_eq_true rfl) (Nat.le_of_ble_eq_true rfl) (by decide) (hz 6 (by decide) (by decide)) ?_
  refine V_dup 46 dX7_init_45 rfl ?_
  refine V_cN0v 49 (ct_X4_init (hz 7 (by decide) (by decide)) (hz 8 (by decide) (by decide)) (hz 9 (by decide) (by decide))) cs_X7_35 dX7_init_46 rfl ⟨Nat.le_of_ble_eq_true rfl, Nat.le_of_ble_eq_true rfl⟩ (Nat.le_of_ble_eq_true rfl) ⟨Nat.le_of_ble_eq_true rfl, Nat.le_of_ble_eq_true rfl⟩ (fun h' hx hle => ?_)
  obtain rfl := hx
  refine V_puto 52 7 4 fl_X7_36 dX7_init_49 rfl rfl (by decide) ⟨_, rfl⟩ (by decide) (Or.inr ⟨rfl, rfl⟩) ?_
  refine V_iconst (v := 0) 53 dX7_init_52 rfl (by decide) ?_
  refine V_istore_n 54 dX7_init_53 rfl (by decide) ?_
  refine V_cnt (cells' := 8 + 40 * 0) (slots' := 1194 + 277 * 0) rfl rfl (V_at (lp_X7_init (g := f_7a h) (by simp [f_7a, f_4, qrr, qri, qrn]) C ⟨rfl, rfl⟩ 6 0 (by omega)) ⟨rfl, rfl, trivial⟩)
def f_8a (h : qH) : qH := qs_r (qs_n (qs_r (qs_n (qs_r (qs_n (qs_r (qs_n (qs_r (qs_n (qs_r (qs_n (qs_r (qs_n (qs_r (qs_n (qs_r (qs_n (qs_r (qs_n (qs_r (qs_n (qs_r (qs_n (qs_r (qs_n (qs_r (qs_n (qs_r (qs_n (qs_r (qs_n (qs_r (qs_n (qs_r (qs_n (qs_r (qs_n (qs_r (qs_n (qs_r (qs_n (qs_r (qs_n (qs_r (qs_n (qs_r (qs_n (qs_r (qs_n (qs_r (qs_n (qs_r (qs_n (h) 34) 33 0 2 (some (34, 0))) 35) 33 0 3 (some (35, 0))) 36) 33 0 4 (some (36, 0))) 37) 33 0 5 (some (37, 0))) 38) 33 0 7 (some (38, 0))) 39) 33 0 8 (some (39, 0))) 40) 33 0 9 (some (40, 0))) 41) 33 0 11 (some (41, 0))) 42) 33 0 12 (some (42, 0))) 43) 33 0 13 (some (43, 0))) 44) 33 0 14 (some (44, 0))) 45) 33 0 15 (some (45, 0))) 46) 33 0 16 (some (46, 0))) 47) 33 0 17 (some (47, 0))) 48) 33 0 18 (some (48, 0))) 49) 33 0 19 (some (49, 0))) 50) 33 0 20 (some (50, 0))) 51) 33 0 21 (some (51, 0))) 52) 33 0 22 (some (52, 0))) 53) 33 0 23 (some (53, 0))) 54) 33 0 24 (some (54, 0))) 55) 33 0 25 (some (55, 0))) 56) 33 0 26 (some (56, 0))) 57) 33 0 28 (some (57, 0))) 58) 33 0 29 (some (58, 0))) 59) 33 0 30 (some (59, 0))) 60) 33 0 31 (some (60, 0))
def f_8 (g : qH) : Nat → qH
  | 0 => g
  | k + 1 => qs_l (qs_l (qs_l (f_8 g k) 46 0 (18 * k + 1) 1) 46 0 (18 * k + 2) 1) 46 0 (18 * k + 3) 1
theorem f8_r {g : qH} : ∀ k, qg_r (f_8 g k) = qg_r g
  | 0 => rfl
  | k + 1 => f8_r (g := g) k
theorem f8a_shr (hz : ∀ k, qg_r h 33 0 k = none) : SHR (f_8a h) := by
  intro k
  rcases Nat.lt_or_ge k 32 with q | q
  · rcases (show k = 0 ∨ k = 1 ∨ k = 2 ∨ k = 3 ∨ k = 4 ∨ k = 5 ∨ k = 6 ∨ k = 7 ∨ k = 8 ∨ k = 9 ∨ k = 10 ∨ k = 11 ∨ k = 12 ∨ k = 13 ∨ k = 14 ∨ k = 15 ∨ k = 16 ∨ k = 17 ∨ k = 18 ∨ k = 19 ∨ k = 20 ∨ k = 21 ∨ k = 22 ∨ k = 23 ∨ k = 24 ∨ k = 25 ∨ k = 26 ∨ k = 27 ∨ k = 28 ∨ k = 29 ∨ k = 30 ∨ k = 31 by omega) with rfl | rfl | rfl | rfl | rfl | rfl | rfl | rfl | rfl | rfl | rfl | rfl | rfl | rfl | rfl | rfl | rfl | rfl | rfl | rfl | rfl | rfl | rfl | rfl | rfl | rfl | rfl | rfl | rfl | rfl | rfl | rfl <;> simp [f_8a, rm_g, qrr, qrn, hz]
  · have e : rm_g k = none := by
      unfold rm_g
      split <;> first | omega | rfl
    rw [e, ← hz k]
    have w : ∀ j, j < 32 → k ≠ j := fun j hj => by omega
    simp only [f_8a, qrr, qrn, w 2 (by decide), w 3 (by decide), w 4 (by decide), w 5 (by decide), w 7 (by decide), w 8 (by decide), w 9 (by decide), w 11 (by decide), w 12 (by decide), w 13 (by decide), w 14 (by decide), w 15 (by decide), w 16 (by decide), w 17 (by decide), w 18 (by decide), w 19 (by decide), w 20 (by decide), w 21 (by decide), w 22 (by decide), w 23 (by decide), w 24 (by decide), w 25 (by decide), w 26 (by decide), w 28 (by decide), w 29 (by decide), w 30 (by decide), w 31 (by decide), and_false, if_false]
theorem lp_X8_init {g : qH} (hS : SHR g) {n0 : Nat → Nat} {Post : Option qV → qH → Prop} (hP : Post none (f_8 g 24)) :
    ∀ (m k : Nat), k + m = 24 → Vw yX8_init cX8_init 2 none (qrm 1 20 27 31558) 27 31558 n0 Post 235 [(0, .inr (.inr (some (33, 0)))), (1, .inl (nI k))] [] (f_8 g k) 27 31558 := by
  intro m
  induction m with
  | zero =>
    intro k hk
    have hk : k = 24 := by omega
    subst hk
    refine V_iload_n 236 dX8_init_235 rfl rfl ?_
    refine V_bipush (v := 24) 238 dX8_init_236 rfl (by decide) ?_
    refine V_icmp_ge 283 241 dX8_init_238 rfl rfl (fun c_238 => ?_) (fun c_238 => ?_)
    · skip
      refine V_vret dX8_init_283 rfl ?_ (by first | exact Nat.le_refl _ | decide | omega) (by first | exact Nat.le_refl _ | decide | omega)
      exact hP
    · skip
      exact absurd (by decide) c_238
  | succ m ih =>
    intro k hk
    have hSg : SHR (f_8 g k) := fun j => by rw [f8_r]; exact hS j
    have e18 : (18 : Int32) * nI k = nI (18 * k) := by rw [show (18 : Int32) = nI 18 from rfl, pk_mul]
    refine V_iload_n 236 dX8_init_235 rfl rfl ?_
    refine V_bipush (v := 24) 238 dX8_init_236 rfl (by decide) ?_
    refine V_icmp_ge 283 241 dX8_init_238 rfl rfl (fun c_238 => ?_) (fun c_238 => ?_)
    · skip
      exact absurd c_238 (nI_ge (b := 24) (by omega) (by omega))
    · skip
      refine V_aload_n 242 dX8_init_241 rfl rfl ?_
      refine V_getR 245 8 16 fl_X8_131 dX8_init_242 rfl rfl (by decide) (Or.inr ⟨_, rfl⟩) (by decide) (sr_16 hSg) ?_
      refine V_bipush (v := 18) 247 dX8_init_245 rfl (by decide) ?_
      refine V_iload_n 248 dX8_init_247 rfl rfl ?_
      refine V_imul 249 dX8_init_248 rfl ?_
      rw [e18]
      refine V_iconst (v := 1) 250 dX8_init_249 rfl (by decide) ?_
      refine V_iadd 251 dX8_init_250 rfl ?_
      refine V_lconst (v := 1) 252 dX8_init_251 rfl (by decide) ?_
      refine V_lastN 253 (18 * k + 1) dX8_init_252 rfl rfl (by decide) (nI_1 _) (show _ < 4752 by omega) (by decide) ?_
      refine V_aload_n 254 dX8_init_253 rfl rfl ?_
      refine V_getR 257 8 16 fl_X8_131 dX8_init_254 rfl rfl (by decide) (Or.inr ⟨_, rfl⟩) (by decide) (sr_16 hSg) ?_
      refine V_bipush (v := 18) 259 dX8_init_257 rfl (by decide) ?_
      refine V_iload_n 260 dX8_init_259 rfl rfl ?_
      refine V_imul 261 dX8_init_260 rfl ?_
      rw [e18]
      refine V_iconst (v := 2) 262 dX8_init_261 rfl (by decide) ?_
      refine V_iadd 263 dX8_init_262 rfl ?_
      refine V_lconst (v := 1) 264 dX8_init_263 rfl (by decide) ?_
      refine V_lastN 265 (18 * k + 2) dX8_init_264 rfl rfl (by decide) (nI_add _ 2) (show _ < 4752 by omega) (by decide) ?_
      refine V_aload_n 266 dX8_init_265 rfl rfl ?_
      refine V_getR 269 8 16 fl_X8_131 dX8_init_266 rfl rfl (by decide) (Or.inr ⟨_, rfl⟩) (by decide) (sr_16 hSg) ?_
      refine V_bipush (v := 18) 271 dX8_init_269 rfl (by decide) ?_
      refine V_iload_n 272 dX8_init_271 rfl rfl ?_
      refine V_imul 273 dX8_init_272 rfl ?_
      rw [e18]
      refine V_iconst (v := 3) 274 dX8_init_273 rfl (by decide) ?_
      refine V_iadd 275 dX8_init_274 rfl ?_
      refine V_lconst (v := 1) 276 dX8_init_275 rfl (by decide) ?_
      refine V_lastN 277 (18 * k + 3) dX8_init_276 rfl rfl (by decide) (nI_add _ 3) (show _ < 4752 by omega) (by decide) ?_
      refine V_iincN 280 dX8_init_277 rfl rfl (by decide) ?_
      refine V_goto 235 dX8_init_280 rfl ?_
      exact V_at (ih (k + 1) (by omega)) ⟨rfl, rfl, trivial⟩
theorem ct_X8_init (hz : ∀ r, 34 ≤ r → r ≤ 60 → qg_n h r = 0) (hr : ∀ k, qg_r h 33 0 k = none) : qM yX8_init cX8_init 2 none 1 20 27 31558 [.inr (.inr (some (33, 0)))] h (pV fun h' => h' = f_8 (f_8a h) 24) := by
  refine qM.of (plainFor_of_name (by decide)) (Nat.le_of_ble_eq_true rfl) ?_
  refine V_aload_n 1 dX8_init_0 rfl rfl ?_
  refine V_objInit 4 ⟨_, rfl⟩ dX8_init_1 rfl ml_X8_126 im_objectInit cw_objectInit (Nat.le_of_ble_eq_true rfl) (Nat.le_of_ble_eq_true rfl) ?_
  refine V_aload_n 5 dX8_init_4 rfl rfl ?_
  refine V_bipush (v := 24) 7 dX8_init_5 rfl (by decide) ?_
  refine V_newaI 9 34 dX8_init_7 rfl rfl (by decide) rfl (Or.inl rfl) wa_int (by decide) (by decide) (by decide) (Nat.le_of_ble_eq_true rfl) (Nat.le_of_ble_eq_true rfl) (hz 34 (by decide) (by decide)) ?_
  refine V_puta 12 8 2 fl_X8_14 dX8_init_9 rfl rfl (by decide) ⟨_, rfl⟩ (by decide) (Or.inr ⟨rfl, rfl⟩) ?_
  refine V_aload_n 13 dX8_init_12 rfl rfl ?_
  refine V_bipush (v := 24) 15 dX8_init_13 rfl (by decide) ?_
  refine V_newaI 17 35 dX8_init_15 rfl rfl (by decide) rfl (Or.inl rfl) wa_int (by decide) (by decide) (by decide) (Nat.le_of_ble_eq_true rfl) (Nat.le_of_ble_eq_true rfl) (hz 35 (by decide) (by decide)) ?_
  refine V_puta 20 8 3 fl_X8_18 dX8_init_17 rfl rfl (by decide) ⟨_, rfl⟩ (by decide) (Or.inr ⟨rfl, rfl⟩) ?_
  refine V_aload_n 21 dX8_init_20 rfl rfl ?_
  refine V_bipush (v := 96) 23 dX8_init_21 rfl (by decide) ?_
  refine V_newaI 25 36 dX8_init_23 rfl rfl (by decide) rfl (Or.inl rfl) wa_int (by decide) (by decide) (by decide) (Nat.le_of_ble_eq_true rfl) (Nat.le_of_ble_eq_true rfl) (hz 36 (by decide) (by decide)) ?_
  refine V_puta 28 8 4 fl_X8_21 dX8_init_25 rfl rfl (by decide) ⟨_, rfl⟩ (by decide) (Or.inr ⟨rfl, rfl⟩) ?_
  refine V_aload_n 29 dX8_init_28 rfl rfl ?_
  refine V_sipush (v := 9600) 32 dX8_init_29 rfl (by decide) ?_
  refine V_newaI 34 37 dX8_init_32 rfl rfl (by decide) rfl (Or.inr (Or.inl rfl)) wa_long (by decide) (by decide) (by decide) (Nat.le_of_ble_eq_true rfl) (Nat.le_of_ble_eq_true rfl) (hz 37 (by decide) (by decide)) ?_
  refine V_puta 37 8 5 fl_X8_56 dX8_init_34 rfl rfl (by decide) ⟨_, rfl⟩ (by decide) (Or.inr ⟨rfl, rfl⟩) ?_
  refine V_aload_n 38 dX8_init_37 rfl rfl ?_
  refine V_sipush (v := 300) 41 dX8_init_38 rfl (by decide) ?_
  refine V_newaI 43 38 dX8_init_41 rfl rfl (by decide) rfl (Or.inr (Or.inl rfl)) wa_long (by decide) (by decide) (by decide) (Nat.le_of_ble_eq_true rfl) (Nat.le_of_ble_eq_true rfl) (hz 38 (by decide) (by decide)) ?_
  refine V_puta 46 8 7 fl_X8_38 dX8_init_43 rfl rfl (by decide) ⟨_, rfl⟩ (by decide) (Or.inr ⟨rfl, rfl⟩) ?_
  refine V_aload_n 47 dX8_init_46 rfl rfl ?_
  refine V_sipush (v := 300) 50 dX8_init_47 rfl (by decide) ?_
  refine V_newaI 52 39 dX8_init_50 rfl rfl (by decide) rfl (Or.inl rfl) wa_int (by decide) (by decide) (by decide) (Nat.le_of_ble_eq_true rfl) (Nat.le_of_ble_eq_true rfl) (hz 39 (by decide) (by decide)) ?_
  refine V_puta 55 8 8 fl_X8_42 dX8_init_52 rfl rfl (by decide) ⟨_, rfl⟩ (by decide) (Or.inr ⟨rfl, rfl⟩) ?_
  refine V_aload_n 56 dX8_init_55 rfl rfl ?_
  refine V_sipush (v := 300) 59 dX8_init_56 rfl (by decide) ?_
  refine V_newaI 61 40 dX8_init_59 rfl rfl (by decide) rfl (Or.inl rfl) wa_int (by decide) (by decide) (by decide) (Nat.le_of_ble_eq_true rfl) (Nat.le_of_ble_eq_true rfl) (hz 40 (by decide) (by decide)) ?_
  refine V_puta 64 8 9 fl_X8_35 dX8_init_61 rfl rfl (by decide) ⟨_, rfl⟩ (by decide) (Or.inr ⟨rfl, rfl⟩) ?_
  refine V_aload_n 65 dX8_init_64 rfl rfl ?_
  refine V_sipush (v := 200) 68 dX8_init_65 rfl (by decide) ?_
  refine V_newaI 70 41 dX8_init_68 rfl rfl (by decide) rfl (Or.inl rfl) wa_int (by decide) (by decide) (by decide) (Nat.le_of_ble_eq_true rfl) (Nat.le_of_ble_eq_true rfl) (hz 41 (by decide) (by decide)) ?_
  refine V_puta 73 8 11 fl_X8_101 dX8_init_70 rfl rfl (by decide) ⟨_, rfl⟩ (by decide) (Or.inr ⟨rfl, rfl⟩) ?_
  refine V_aload_n 74 dX8_init_73 rfl rfl ?_
  refine V_sipush (v := 200) 77 dX8_init_74 rfl (by decide) ?_
  refine V_newaI 79 42 dX8_init_77 rfl rfl (by decide) rfl (Or.inl rfl) wa_int (by decide) (by decide) (by decide) (Nat.le_of_ble_eq_true rfl) (Nat.le_of_ble_eq_true rfl) (hz 42 (by decide) (by decide)) ?_
  refine V_puta 82 8 12 fl_X8_98 dX8_init_79 rfl rfl (by decide) ⟨_, rfl⟩ (by decide) (Or.inr ⟨rfl, rfl⟩) ?_
  refine V_aload_n 83 dX8_init_82 rfl rfl ?_
  refine V_sipush (v := 200) 86 dX8_init_83 rfl (by decide) ?_
  refine V_newaI 88 43 dX8_init_86 rfl rfl (by decide) rfl (Or.inl rfl) wa_int (by decide) (by decide) (by decide) (Nat.le_of_ble_eq_true rfl) (Nat.le_of_ble_eq_true rfl) (hz 43 (by decide) (by decide)) ?_
  refine V_puta 91 8 13 fl_X8_104 dX8_init_88 rfl rfl (by decide) ⟨_, rfl⟩ (by decide) (Or.inr ⟨rfl, rfl⟩) ?_
  refine V_aload_n 92 dX8_init_91 rfl rfl ?_
  refine V_sipush (v := 200) 95 dX8_init_92 rfl (by decide) ?_
  refine V_newaI 97 44 dX8_init_95 rfl rfl (by decide) rfl (Or.inl rfl) wa_int (by decide) (by decide) (by decide) (Nat.le_of_ble_eq_true rfl) (Nat.le_of_ble_eq_true rfl) (hz 44 (by decide) (by decide)) ?_
  refine V_puta 100 8 14 fl_X8_88 dX8_init_97 rfl rfl (by decide) ⟨_, rfl⟩ (by decide) (Or.inr ⟨rfl, rfl⟩) ?_
  refine V_aload_n 101 dX8_init_100 rfl rfl ?_
  refine V_sipush (v := 200) 104 dX8_init_101 rfl (by decide) ?_
  refine V_newaI 106 45 dX8_init_104 rfl rfl (by decide) rfl (Or.inr (Or.inr rfl)) wa_boolean (by decide) (by decide) (by decide) (Nat.le_of_ble_eq_true rfl) (Nat.le_of_ble_eq_true rfl) (hz 45 (by decide) (by decide)) ?_
  refine V_puta 109 8 15 fl_X8_84 dX8_init_106 rfl rfl (by decide) ⟨_, rfl⟩ (by decide) (Or.inr ⟨rfl, rfl⟩) ?_
  refine V_aload_n 110 dX8_init_109 rfl rfl ?_
  refine V_sipush (v := 4752) 113 dX8_init_110 rfl (by decide) ?_
  refine V_newaI 115 46 dX8_init_113 rfl rfl (by decide) rfl (Or.inr (Or.inl rfl)) wa_long (by decide) (by decide) (by decide) (Nat.le_of_ble_eq_true rfl) (Nat.le_of_ble_eq_true rfl) (hz 46 (by decide) (by decide)) ?_
  refine V_puta 118 8 16 fl_X8_131 dX8_init_115 rfl rfl (by decide) ⟨_, rfl⟩ (by decide) (Or.inr ⟨rfl, rfl⟩) ?_
  refine V_aload_n 119 dX8_init_118 rfl rfl ?_
  refine V_bipush (v := 6) 121 dX8_init_119 rfl (by decide) ?_
  refine V_newaI 123 47 dX8_init_121 rfl rfl (by decide) rfl (Or.inl rfl) wa_int (by decide) (by decide) (by decide) (Nat.le_of_ble_eq_true rfl) (Nat.le_of_ble_eq_true rfl) (hz 47 (by decide) (by decide)) ?_
  refine V_puta 126 8 17 fl_X8_134 dX8_init_123 rfl rfl (by decide) ⟨_, rfl⟩ (by decide) (Or.inr ⟨rfl, rfl⟩) ?_
  refine V_aload_n 127 dX8_init_126 rfl rfl ?_
  refine V_bipush (v := 6) 129 dX8_init_127 rfl (by decide) ?_
  refine V_newaI 131 48 dX8_init_129 rfl rfl (by decide) rfl (Or.inr (Or.inl rfl)) wa_long (by decide) (by decide) (by decide) (Nat.le_of_ble_eq_true rfl) (Nat.le_of_ble_eq_true rfl) (hz 48 (by decide) (by decide)) ?_
  refine V_puta 134 8 18 fl_X8_137 dX8_init_131 rfl rfl (by decide) ⟨_, rfl⟩ (by decide) (Or.inr ⟨rfl, rfl⟩) ?_
  refine V_aload_n 135 dX8_init_134 rfl rfl ?_
  refine V_bipush (v := 6) 137 dX8_init_135 rfl (by decide) ?_
  refine V_newaI 139 49 dX8_init_137 rfl rfl (by decide) rfl (Or.inl rfl) wa_int (by decide) (by decide) (by decide) (Nat.le_of_ble_eq_true rfl) (Nat.le_of_ble_eq_true rfl) (hz 49 (by decide) (by decide)) ?_
  refine V_puta 142 8 19 fl_X8_140 dX8_init_139 rfl rfl (by decide) ⟨_, rfl⟩ (by decide) (Or.inr ⟨rfl, rfl⟩) ?_
  refine V_aload_n 143 dX8_init_142 rfl rfl ?_
  refine V_bipush (v := 6) 145 dX8_init_143 rfl (by decide) ?_
  refine V_newaI 147 50 dX8_init_145 rfl rfl (by decide) rfl (Or.inl rfl) wa_int (by decide) (by decide) (by decide) (Nat.le_of_ble_eq_true rfl) (Nat.le_of_ble_eq_true rfl) (hz 50 (by decide) (by decide)) ?_
  refine V_puta 150 8 20 fl_X8_143 dX8_init_147 rfl rfl (by decide) ⟨_, rfl⟩ (by decide) (Or.inr ⟨rfl, rfl⟩) ?_
  refine V_aload_n 151 dX8_init_150 rfl rfl ?_
  refine V_sipush (v := 240) 154 dX8_init_151 rfl (by decide) ?_
  refine V_newaI 156 51 dX8_init_154 rfl rfl (by decide) rfl (Or.inr (Or.inl rfl)) wa_long (by decide) (by decide) (by decide) (Nat.le_of_ble_eq_true rfl) (Nat.le_of_ble_eq_true rfl) (hz 51 (by decide) (by decide)) ?_
  refine V_puta 159 8 21 fl_X8_146 dX8_init_156 rfl rfl (by decide) ⟨_, rfl⟩ (by decide) (Or.inr ⟨rfl, rfl⟩) ?_
  refine V_aload_n 160 dX8_init_159 rfl rfl ?_
  refine V_sipush (v := 240) 163 dX8_init_160 rfl (by decide) ?_
  refine V_newaI 165 52 dX8_init_163 rfl rfl (by decide) rfl (Or.inl rfl) wa_int (by decide) (by decide) (by decide) (Nat.le_of_ble_eq_true rfl) (Nat.le_of_ble_eq_true rfl) (hz 52 (by decide) (by decide)) ?_
  refine V_puta 168 8 22 fl_X8_149 dX8_init_165 rfl rfl (by decide) ⟨_, rfl⟩ (by decide) (Or.inr ⟨rfl, rfl⟩) ?_
  refine V_aload_n 169 dX8_init_168 rfl rfl ?_
  refine V_bipush (v := 6) 171 dX8_init_169 rfl (by decide) ?_
  refine V_newaI 173 53 dX8_init_171 rfl rfl (by decide) rfl (Or.inl rfl) wa_int (by decide) (by decide) (by decide) (Nat.le_of_ble_eq_true rfl) (Nat.le_of_ble_eq_true rfl) (hz 53 (by decide) (by decide)) ?_
  refine V_puta 176 8 23 fl_X8_49 dX8_init_173 rfl rfl (by decide) ⟨_, rfl⟩ (by decide) (Or.inr ⟨rfl, rfl⟩) ?_
  refine V_aload_n 177 dX8_init_176 rfl rfl ?_
  refine V_bipush (v := 24) 179 dX8_init_177 rfl (by decide) ?_
  refine V_newaI 181 54 dX8_init_179 rfl rfl (by decide) rfl (Or.inr (Or.inl rfl)) wa_long (by decide) (by decide) (by decide) (Nat.le_of_ble_eq_true rfl) (Nat.le_of_ble_eq_true rfl) (hz 54 (by decide) (by decide)) ?_
  refine V_puta 184 8 24 fl_X8_152 dX8_init_181 rfl rfl (by decide) ⟨_, rfl⟩ (by decide) (Or.inr ⟨rfl, rfl⟩) ?_
  refine V_aload_n 185 dX8_init_184 rfl rfl ?_
  refine V_bipush (v := 24) 187 dX8_init_185 rfl (by decide) ?_
  refine V_newaI 189 55 dX8_init_187 rfl rfl (by decide) rfl (Or.inr (Or.inl rfl)) wa_long (by decide) (by decide) (by decide) (Nat.le_of_ble_eq_true rfl) (Nat.le_of_ble_eq_true rfl) (hz 55 (by decide) (by decide)) ?_
  refine V_puta 192 8 25 fl_X8_155 dX8_init_189 rfl rfl (by decide) ⟨_, rfl⟩ (by decide) (Or.inr ⟨rfl, rfl⟩) ?_
  refine V_aload_n 193 dX8_init_192 rfl rfl ?_
  refine V_bipush (v := 24) 195 dX8_init_193 rfl (by decide) ?_
  refine V_newaI 197 56 dX8_init_195 rfl rfl (by decide) rfl (Or.inr (Or.inr rfl)) wa_boolean (by decide) (by decide) (by decide) (Nat.le_of_ble_eq_true rfl) (Nat.le_of_ble_eq_true rfl) (hz 56 (by decide) (by decide)) ?_
  refine V_puta 200 8 26 fl_X8_158 dX8_init_197 rfl rfl (by decide) ⟨_, rfl⟩ (by decide) (Or.inr ⟨rfl, rfl⟩) ?_
  refine V_aload_n 201 dX8_init_200 rfl rfl ?_
  refine V_bipush (v := 60) 203 dX8_init_201 rfl (by decide) ?_
  refine V_newaI 205 57 dX8_init_203 rfl rfl (by decide) rfl (Or.inl rfl) wa_int (by decide) (by decide) (by decide) (Nat.le_of_ble_eq_true rfl) (Nat.le_of_ble_eq_true rfl) (hz 57 (by decide) (by decide)) ?_
  refine V_puta 208 8 28 fl_X8_161 dX8_init_205 rfl rfl (by decide) ⟨_, rfl⟩ (by decide) (Or.inr ⟨rfl, rfl⟩) ?_
  refine V_aload_n 209 dX8_init_208 rfl rfl ?_
  refine V_bipush (v := 60) 211 dX8_init_209 rfl (by decide) ?_
  refine V_newaI 213 58 dX8_init_211 rfl rfl (by decide) rfl (Or.inl rfl) wa_int (by decide) (by decide) (by decide) (Nat.le_of_ble_eq_true rfl) (Nat.le_of_ble_eq_true rfl) (hz 58 (by decide) (by decide)) ?_
  refine V_puta 216 8 29 fl_X8_164 dX8_init_213 rfl rfl (by decide) ⟨_, rfl⟩ (by decide) (Or.inr ⟨rfl, rfl⟩) ?_
  refine V_aload_n 217 dX8_init_216 rfl rfl ?_
  refine V_bipush (v := 60) 219 dX8_init_217 rfl (by decide) ?_
  refine V_newaI 221 59 dX8_init_219 rfl rfl (by decide) rfl (Or.inl rfl) wa_int (by decide) (by decide) (by decide) (Nat.le_of_ble_eq_true rfl) (Nat.le_of_ble_eq_true rfl) (hz 59 (by decide) (by decide)) ?_
  refine V_puta 224 8 30 fl_X8_167 dX8_init_221 rfl rfl (by decide) ⟨_, rfl⟩ (by decide) (Or.inr ⟨rfl, rfl⟩) ?_
  refine V_aload_n 225 dX8_init_224 rfl rfl ?_
  refine V_sipush (v := 14400) 228 dX8_init_225 rfl (by decide) ?_
  refine V_newaI 230 60 dX8_init_228 rfl rfl (by decide) rfl (Or.inr (Or.inl rfl)) wa_long (by decide) (by decide) (by decide) (Nat.le_of_ble_eq_true rfl) (Nat.le_of_ble_eq_true rfl) (hz 60 (by decide) (by decide)) ?_
  refine V_puta 233 8 31 fl_X8_170 dX8_init_230 rfl rfl (by decide) ⟨_, rfl⟩ (by decide) (Or.inr ⟨rfl, rfl⟩) ?_
  refine V_iconst (v := 0) 234 dX8_init_233 rfl (by decide) ?_
  refine V_istore_n 235 dX8_init_234 rfl (by decide) ?_
  refine V_cnt (cells' := 27) (slots' := 31558) rfl rfl (V_at (lp_X8_init (g := f_8a h) (f8a_shr hr) ⟨rfl, rfl⟩ 24 0 (by omega)) ⟨rfl, rfl, trivial⟩)
end CN
