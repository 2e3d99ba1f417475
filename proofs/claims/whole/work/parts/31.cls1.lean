/-! The class: accounts, keys -/
section CA
variable {h : qH} {NA NH NI : Nat}
theorem lp_X0_addUsed {r p : Nat} {u : Int32} (hr : r < 4) (hp : p < 100) (hNA : NA ≤ 24) {n0 : Nat → Nat} {Post : Option qV → qH → Prop} :
    ∀ (a : Nat), a < NA → ∀ g, SHC g NA NH NI → WO g NA → Post none (auF g (ly (par g) a) r p u.toInt64) → Vw yX0_addUsed cX0_addUsed 5 none (qrm 0 0 0 0) 0 0 n0 Post 3 [(1, .inl (nI r)), (2, .inl (nI p)), (3, .inl u), (4, .inr (.inr (some (22, a))))] [] g 0 0 := by
  intro a
  induction a using Nat.strongRecOn with
  | _ a ih =>
    intro ha g hS hO hP
    rcases hO a ha with e | ⟨o, ho, e⟩
    · rw [← ly_root (par_none e), ← au_one hr] at hP
      refine V_aload 5 dX0_addUsed_3 rfl rfl ?_
      refine V_ifnull 32 8 dX0_addUsed_5 rfl rfl (fun c_5 => ?_) (fun a_5 c_5 => ?_)
      · skip
        cases c_5
      · skip
        cases c_5
        refine V_aload 10 dX0_addUsed_8 rfl rfl ?_
        refine V_getR 13 0 3 fl_X0_11 dX0_addUsed_10 rfl rfl (by decide) (Or.inr ⟨_, rfl⟩) (by decide) (sh_0_3 hS (by omega)) ?_
        refine V_iload_n 14 dX0_addUsed_13 rfl rfl ?_
        refine V_aaldR 15 (_) dX0_addUsed_14 rfl rfl (Or.inr ⟨_, rfl⟩) (by decide) rfl (show _ < 4 by omega) (by decide) (sa_23 hS (by omega) (by omega)) ?_
        refine V_iload_n 16 dX0_addUsed_15 rfl rfl ?_
        refine V_dup2 17 dX0_addUsed_16 rfl ?_
        refine V_laldN 18 (_) dX0_addUsed_17 rfl rfl (by decide) rfl (show _ < 100 by omega) (by decide) ?_
        refine V_iload_n 19 dX0_addUsed_18 rfl rfl ?_
        refine V_i2l 20 dX0_addUsed_19 rfl ?_
        refine V_ladd 21 dX0_addUsed_20 rfl ?_
        refine V_lastN 22 (_) dX0_addUsed_21 rfl rfl (by decide) rfl (show _ < 100 by omega) (by decide) ?_
        refine V_aload 24 dX0_addUsed_22 rfl rfl ?_
        refine V_getR 27 0 2 fl_X0_31 dX0_addUsed_24 rfl rfl (by decide) (Or.inl ⟨_, rfl⟩) (by decide) e ?_
        refine V_astore 29 dX0_addUsed_27 rfl (by decide) ?_
        refine V_goto 3 dX0_addUsed_29 rfl ?_
        refine V_aload 5 dX0_addUsed_3 rfl rfl ?_
        refine V_ifnull 32 8 dX0_addUsed_5 rfl rfl (fun _ => ?_) (fun _ q => by cases q)
        exact V_vret dX0_addUsed_32 rfl hP (Nat.le_refl _) (Nat.le_refl _)
    · have hN : NA ≤ 2 ^ 31 := by omega
      rw [← ly_split hN hO.wi ha ho (par_some e), ← au_two (ly_apart hN hO.wi ha ho), ← au_one hr] at hP
      refine V_aload 5 dX0_addUsed_3 rfl rfl ?_
      refine V_ifnull 32 8 dX0_addUsed_5 rfl rfl (fun c_5 => ?_) (fun a_5 c_5 => ?_)
      · skip
        cases c_5
      · skip
        cases c_5
        refine V_aload 10 dX0_addUsed_8 rfl rfl ?_
        refine V_getR 13 0 3 fl_X0_11 dX0_addUsed_10 rfl rfl (by decide) (Or.inr ⟨_, rfl⟩) (by decide) (sh_0_3 hS (by omega)) ?_
        refine V_iload_n 14 dX0_addUsed_13 rfl rfl ?_
        refine V_aaldR 15 (_) dX0_addUsed_14 rfl rfl (Or.inr ⟨_, rfl⟩) (by decide) rfl (show _ < 4 by omega) (by decide) (sa_23 hS (by omega) (by omega)) ?_
        refine V_iload_n 16 dX0_addUsed_15 rfl rfl ?_
        refine V_dup2 17 dX0_addUsed_16 rfl ?_
        refine V_laldN 18 (_) dX0_addUsed_17 rfl rfl (by decide) rfl (show _ < 100 by omega) (by decide) ?_
        refine V_iload_n 19 dX0_addUsed_18 rfl rfl ?_
        refine V_i2l 20 dX0_addUsed_19 rfl ?_
        refine V_ladd 21 dX0_addUsed_20 rfl ?_
        refine V_lastN 22 (_) dX0_addUsed_21 rfl rfl (by decide) rfl (show _ < 100 by omega) (by decide) ?_
        refine V_aload 24 dX0_addUsed_22 rfl rfl ?_
        refine V_getR 27 0 2 fl_X0_31 dX0_addUsed_24 rfl rfl (by decide) (Or.inl ⟨_, rfl⟩) (by decide) e ?_
        refine V_astore 29 dX0_addUsed_27 rfl (by decide) ?_
        refine V_goto 3 dX0_addUsed_29 rfl ?_
        exact V_at (ih o ho (by omega) _ hS hO hP) ⟨rfl, rfl, rfl, rfl, trivial⟩
theorem ct_X0_addUsed {a r p : Nat} {u : Int32} (hS : SHC h NA NH NI) (hO : WO h NA) (hNA : NA ≤ 24) (ha : a < NA) (hr : r < 4) (hp : p < 100) : qM yX0_addUsed cX0_addUsed 5 none 0 0 0 0 [.inr (.inr (some (22, a))), .inl (nI r), .inl (nI p), .inl u] h (pV fun h' => h' = auF h (ly (par h) a) r p u.toInt64) := by
  refine qM.of (plainFor_of_name (by decide)) (Nat.le_of_ble_eq_true rfl) ?_
  refine V_aload_n 1 dX0_addUsed_0 rfl rfl ?_
  refine V_astore 3 dX0_addUsed_1 rfl (by decide) ?_
  exact V_at (lp_X0_addUsed hr hp hNA a ha h hS hO ⟨rfl, rfl⟩) ⟨rfl, rfl, rfl, rfl, trivial⟩
theorem lp_X0_addHeld {r : Nat} {u : Int32} (hr : r < 4) (hNA : NA ≤ 24) {n0 : Nat → Nat} {Post : Option qV → qH → Prop} :
    ∀ (a : Nat), a < NA → ∀ g, SHC g NA NH NI → WO g NA → Post none (ahF g (ly (par g) a) r u) → Vw yX0_addHeld cX0_addHeld 4 none (qrm 0 0 0 0) 0 0 n0 Post 2 [(1, .inl (nI r)), (2, .inl u), (3, .inr (.inr (some (22, a))))] [] g 0 0 := by
  intro a
  induction a using Nat.strongRecOn with
  | _ a ih =>
    intro ha g hS hO hP
    rcases hO a ha with e | ⟨o, ho, e⟩
    · rw [← ly_root (par_none e), ← ah_one] at hP
      refine V_aload_n 3 dX0_addHeld_2 rfl rfl ?_
      refine V_ifnull 24 6 dX0_addHeld_3 rfl rfl (fun c_3 => ?_) (fun a_3 c_3 => ?_)
      · skip
        cases c_3
      · skip
        cases c_3
        refine V_aload_n 7 dX0_addHeld_6 rfl rfl ?_
        refine V_getR 10 0 4 fl_X0_16 dX0_addHeld_7 rfl rfl (by decide) (Or.inr ⟨_, rfl⟩) (by decide) (sh_0_4 hS (by omega)) ?_
        refine V_iload_n 11 dX0_addHeld_10 rfl rfl ?_
        refine V_dup2 12 dX0_addHeld_11 rfl ?_
        refine V_ialdN 13 (_) dX0_addHeld_12 rfl rfl (by decide) rfl (show _ < 4 by omega) (by decide) ?_
        refine V_iload_n 14 dX0_addHeld_13 rfl rfl ?_
        refine V_iadd 15 dX0_addHeld_14 rfl ?_
        refine V_iastN 16 (_) dX0_addHeld_15 rfl rfl (by decide) rfl (show _ < 4 by omega) (by decide) ?_
        refine V_aload_n 17 dX0_addHeld_16 rfl rfl ?_
        refine V_getR 20 0 2 fl_X0_31 dX0_addHeld_17 rfl rfl (by decide) (Or.inl ⟨_, rfl⟩) (by decide) e ?_
        refine V_astore_n 21 dX0_addHeld_20 rfl (by decide) ?_
        refine V_goto 2 dX0_addHeld_21 rfl ?_
        refine V_aload_n 3 dX0_addHeld_2 rfl rfl ?_
        refine V_ifnull 24 6 dX0_addHeld_3 rfl rfl (fun _ => ?_) (fun _ q => by cases q)
        exact V_vret dX0_addHeld_24 rfl hP (Nat.le_refl _) (Nat.le_refl _)
    · have hN : NA ≤ 2 ^ 31 := by omega
      rw [← ly_split hN hO.wi ha ho (par_some e), ← ah_two (ly_apart hN hO.wi ha ho), ← ah_one] at hP
      refine V_aload_n 3 dX0_addHeld_2 rfl rfl ?_
      refine V_ifnull 24 6 dX0_addHeld_3 rfl rfl (fun c_3 => ?_) (fun a_3 c_3 => ?_)
      · skip
        cases c_3
      · skip
        cases c_3
        refine V_aload_n 7 dX0_addHeld_6 rfl rfl ?_
        refine V_getR 10 0 4 fl_X0_16 dX0_addHeld_7 rfl rfl (by decide) (Or.inr ⟨_, rfl⟩) (by decide) (sh_0_4 hS (by omega)) ?_
        refine V_iload_n 11 dX0_addHeld_10 rfl rfl ?_
        refine V_dup2 12 dX0_addHeld_11 rfl ?_
        refine V_ialdN 13 (_) dX0_addHeld_12 rfl rfl (by decide) rfl (show _ < 4 by omega) (by decide) ?_
        refine V_iload_n 14 dX0_addHeld_13 rfl rfl ?_
        refine V_iadd 15 dX0_addHeld_14 rfl ?_
        refine V_iastN 16 (_) dX0_addHeld_15 rfl rfl (by decide) rfl (show _ < 4 by omega) (by decide) ?_
        refine V_aload_n 17 dX0_addHeld_16 rfl rfl ?_
        refine V_getR 20 0 2 fl_X0_31 dX0_addHeld_17 rfl rfl (by decide) (Or.inl ⟨_, rfl⟩) (by decide) e ?_
        refine V_astore_n 21 dX0_addHeld_20 rfl (by decide) ?_
        refine V_goto 2 dX0_addHeld_21 rfl ?_
        exact V_at (ih o ho (by omega) _ hS hO hP) ⟨rfl, rfl, rfl, trivial⟩
theorem ct_X0_addHeld {a r : Nat} {u : Int32} (hS : SHC h NA NH NI) (hO : WO h NA) (hNA : NA ≤ 24) (ha : a < NA) (hr : r < 4) : qM yX0_addHeld cX0_addHeld 4 none 0 0 0 0 [.inr (.inr (some (22, a))), .inl (nI r), .inl u] h (pV fun h' => h' = ahF h (ly (par h) a) r u) := by
  refine qM.of (plainFor_of_name (by decide)) (Nat.le_of_ble_eq_true rfl) ?_
  refine V_aload_n 1 dX0_addHeld_0 rfl rfl ?_
  refine V_astore_n 2 dX0_addHeld_1 rfl (by decide) ?_
  exact V_at (lp_X0_addHeld hr hNA a ha h hS hO ⟨rfl, rfl⟩) ⟨rfl, rfl, rfl, trivial⟩
/-- what is free, as the class counts it -/
def f_z (h : qH) (r p a : Nat) : Int64 := (qg_i h 26 a r).toInt64 - qg_l h 24 (4 * a + r) p - (qg_i h 25 a r).toInt64
def f_room (h : qH) (r p a : Nat) : Int64 := grn (par h) (fun a => qg_i h 26 a r) (f_z h r p) a a 1000000
theorem lp_X0_free {r p : Nat} (hS : SHC h NA NH NI) (hO : WO h NA) (hr : r < 4) (hp : p < 100) (hNA : NA ≤ 24) {n0 : Nat → Nat} {Post : Option qV → qH → Prop} :
    ∀ (a : Nat), a < NA → ∀ x, Post (some (.inl (if 0 < grn (par h) (fun a => qg_i h 26 a r) (f_z h r p) a a x then grn (par h) (fun a => qg_i h 26 a r) (f_z h r p) a a x else 0).toInt32)) h → Vw yX0_freeUnits cX0_freeUnits 6 ((some .int)) (qrm 1 23 0 0) 0 0 n0 Post 7 [(1, .inl (nI r)), (2, .inl (nI p)), (3, .inr (.inl x)), (5, .inr (.inr (some (22, a))))] [] h 0 0 := by
  have hend : ∀ x, Post (some (.inl (if 0 < x then x else 0).toInt32)) h → ∀ L, qlk L 3 = some (.inr (.inl x)) → qlk L 5 = some (.inr (.inr none)) → Vw yX0_freeUnits cX0_freeUnits 6 ((some .int)) (qrm 1 23 0 0) 0 0 n0 Post 7 L [] h 0 0 := by
    intro x hP L h3 h5
    refine V_aload 9 dX0_freeUnits_7 rfl h5 ?_
    refine V_ifnull 65 12 dX0_freeUnits_9 rfl rfl (fun _ => ?_) (fun _ q => by cases q)
    refine V_lload_n 66 dX0_freeUnits_65 rfl h3 ?_
    refine V_lconst (v := 0) 67 dX0_freeUnits_66 rfl (by decide) ?_
    refine V_cS2l 70 (ct_J9_max_f86c9 _ _ _) cs_X0_43 dX0_freeUnits_67 rfl ⟨Nat.le_of_ble_eq_true rfl, Nat.le_of_ble_eq_true rfl⟩ (Nat.le_of_ble_eq_true rfl) ⟨Nat.le_of_ble_eq_true rfl, Nat.le_of_ble_eq_true rfl⟩ (fun x h' hx hle => ?_)
    obtain ⟨rfl, rfl⟩ := hx
    refine V_l2i 71 dX0_freeUnits_70 rfl ?_
    refine V_iret dX0_freeUnits_71 rfl rfl ?_ (by first | exact Nat.le_refl _ | decide | omega) (by first | exact Nat.le_refl _ | decide | omega)
    have e : (if x < 0 then (0 : Int64) else x) = (if 0 < x then x else 0) := by grind
    rw [e]
    exact hP
  intro a
  induction a using Nat.strongRecOn with
  | _ a ih =>
    intro ha x hP
    have hN : NA ≤ 2 ^ 31 := by omega
    have fin : ∀ z, z = gr1 (qg_i h 26 a r) (f_z h r p a) x → Vw yX0_freeUnits cX0_freeUnits 6 ((some .int)) (qrm 1 23 0 0) 0 0 n0 Post 55 [(1, .inl (nI r)), (2, .inl (nI p)), (3, .inr (.inl z)), (5, .inr (.inr (some (22, a))))] [] h 0 0 := by
      intro z hz
      subst hz
      rcases hO a ha with e | ⟨o, ho, e⟩
      · rw [grn_none (par_none e)] at hP
        refine V_aload 57 dX0_freeUnits_55 rfl rfl ?_
        refine V_getR 60 0 2 fl_X0_31 dX0_freeUnits_57 rfl rfl (by decide) (Or.inl ⟨_, rfl⟩) (by decide) e ?_
        refine V_astore 62 dX0_freeUnits_60 rfl (by decide) ?_
        refine V_goto 7 dX0_freeUnits_62 rfl ?_
        exact hend _ hP _ rfl rfl
      · rw [grn_some hN hO.wi ha ho (par_some e)] at hP
        refine V_aload 57 dX0_freeUnits_55 rfl rfl ?_
        refine V_getR 60 0 2 fl_X0_31 dX0_freeUnits_57 rfl rfl (by decide) (Or.inl ⟨_, rfl⟩) (by decide) e ?_
        refine V_astore 62 dX0_freeUnits_60 rfl (by decide) ?_
        refine V_goto 7 dX0_freeUnits_62 rfl ?_
        exact V_at (ih o ho (by omega) _ hP) ⟨rfl, rfl, rfl, rfl, trivial⟩
    refine V_aload 9 dX0_freeUnits_7 rfl rfl ?_
    refine V_ifnull 65 12 dX0_freeUnits_9 rfl rfl (fun c_9 => ?_) (fun a_9 c_9 => ?_)
    · skip
      cases c_9
    · skip
      cases c_9
      refine V_aload 14 dX0_freeUnits_12 rfl rfl ?_
      refine V_getR 17 0 5 fl_X0_20 dX0_freeUnits_14 rfl rfl (by decide) (Or.inr ⟨_, rfl⟩) (by decide) (sh_0_5 hS (by omega)) ?_
      refine V_iload_n 18 dX0_freeUnits_17 rfl rfl ?_
      refine V_ialdN 19 (_) dX0_freeUnits_18 rfl rfl (by decide) rfl (show _ < 4 by omega) (by decide) ?_
      refine V_iconst (v := (-1)) 20 dX0_freeUnits_19 rfl (by decide) ?_
      refine V_icmp_eq 55 23 dX0_freeUnits_20 rfl rfl (fun c_20 => ?_) (fun c_20 => ?_)
      · skip
        refine V_at (fin _ ?_) ⟨rfl, rfl, rfl, rfl, trivial⟩
        simp only [gr1, f_z]
        grind
      · skip
        refine V_lload_n 24 dX0_freeUnits_23 rfl rfl ?_
        refine V_aload 26 dX0_freeUnits_24 rfl rfl ?_
        refine V_getR 29 0 5 fl_X0_20 dX0_freeUnits_26 rfl rfl (by decide) (Or.inr ⟨_, rfl⟩) (by decide) (sh_0_5 hS (by omega)) ?_
        refine V_iload_n 30 dX0_freeUnits_29 rfl rfl ?_
        refine V_ialdN 31 (_) dX0_freeUnits_30 rfl rfl (by decide) rfl (show _ < 4 by omega) (by decide) ?_
        refine V_i2l 32 dX0_freeUnits_31 rfl ?_
        refine V_aload 34 dX0_freeUnits_32 rfl rfl ?_
        refine V_getR 37 0 3 fl_X0_11 dX0_freeUnits_34 rfl rfl (by decide) (Or.inr ⟨_, rfl⟩) (by decide) (sh_0_3 hS (by omega)) ?_
        refine V_iload_n 38 dX0_freeUnits_37 rfl rfl ?_
        refine V_aaldR 39 (_) dX0_freeUnits_38 rfl rfl (Or.inr ⟨_, rfl⟩) (by decide) rfl (show _ < 4 by omega) (by decide) (sa_23 hS (by omega) (by omega)) ?_
        refine V_iload_n 40 dX0_freeUnits_39 rfl rfl ?_
        refine V_laldN 41 (_) dX0_freeUnits_40 rfl rfl (by decide) rfl (show _ < 100 by omega) (by decide) ?_
        refine V_lsub 42 dX0_freeUnits_41 rfl ?_
        refine V_aload 44 dX0_freeUnits_42 rfl rfl ?_
        refine V_getR 47 0 4 fl_X0_16 dX0_freeUnits_44 rfl rfl (by decide) (Or.inr ⟨_, rfl⟩) (by decide) (sh_0_4 hS (by omega)) ?_
        refine V_iload_n 48 dX0_freeUnits_47 rfl rfl ?_
        refine V_ialdN 49 (_) dX0_freeUnits_48 rfl rfl (by decide) rfl (show _ < 4 by omega) (by decide) ?_
        refine V_i2l 50 dX0_freeUnits_49 rfl ?_
        refine V_lsub 51 dX0_freeUnits_50 rfl ?_
        refine V_cS2l 54 (ct_J9_min_f86c9 _ _ _) cs_X0_37 dX0_freeUnits_51 rfl ⟨Nat.le_of_ble_eq_true rfl, Nat.le_of_ble_eq_true rfl⟩ (Nat.le_of_ble_eq_true rfl) ⟨Nat.le_of_ble_eq_true rfl, Nat.le_of_ble_eq_true rfl⟩ (fun x h' hx hle => ?_)
        obtain ⟨rfl, rfl⟩ := hx
        refine V_lstore_n 55 dX0_freeUnits_54 rfl (by decide) ?_
        refine V_at (fin _ ?_) ⟨rfl, rfl, rfl, rfl, trivial⟩
        simp only [gr1, f_z]
        grind
theorem ct_X0_freeUnits {a r p : Nat} (hS : SHC h NA NH NI) (hO : WO h NA) (hNA : NA ≤ 24) (ha : a < NA) (hr : r < 4) (hp : p < 100) : qM yX0_freeUnits cX0_freeUnits 6 ((some .int)) 1 23 0 0 [.inr (.inr (some (22, a))), .inl (nI r), .inl (nI p)] h (pI fun x h' => x = (if 0 < f_room h r p a then f_room h r p a else 0).toInt32 ∧ h' = h) := by
  refine qM.of (plainFor_of_name (by decide)) (Nat.le_of_ble_eq_true rfl) ?_
  refine V_ldc2 (v := 1000000) 3 dX0_freeUnits_0 rfl wc_X0_35 ?_
  refine V_lstore_n 4 dX0_freeUnits_3 rfl (by decide) ?_
  refine V_aload_n 5 dX0_freeUnits_4 rfl rfl ?_
  refine V_astore 7 dX0_freeUnits_5 rfl (by decide) ?_
  exact V_at (lp_X0_free hS hO hr hp hNA a ha _ ⟨_, rfl, rfl, rfl⟩) ⟨rfl, rfl, rfl, rfl, trivial⟩
/-- keys -/
theorem lp_X4_knows {nk : Nat} {key : Int64} {t : Int32} (hS : SHC h NA NH NI) (e : qg_i h 6 0 3 = nI nk) (hnk : nk ≤ 300) {n0 : Nat → Nat} {Post : Option qV → qH → Prop} (hY : kn (kl h 7 8 9 nk) key t → Post (some (.inl 1)) h) (hN : ¬ kn (kl h 7 8 9 nk) key t → Post (some (.inl 0)) h) :
    ∀ (m i : Nat), i + m = nk → (∀ k, k < i → ¬ (qg_l h 7 0 k = key ∧ qg_i h 8 0 k = t)) → Vw yX4_knows cX4_knows 5 ((some .boolean)) (qrm 0 0 0 0) 0 0 n0 Post 3 [(0, .inr (.inr (some (6, 0)))), (1, .inl t), (2, .inr (.inl key)), (4, .inl (nI i))] [] h 0 0 := by
  intro m
  induction m with
  | zero =>
    intro i hi hno
    have hi : i = nk := by omega
    subst hi
    refine V_iload 5 dX4_knows_3 rfl rfl ?_
    refine V_aload_n 6 dX4_knows_5 rfl rfl ?_
    refine V_getiV 9 4 3 fl_X4_22 dX4_knows_6 rfl rfl (by decide) rfl (by decide) e ?_
    refine V_icmp_ge 43 12 dX4_knows_9 rfl rfl (fun c_9 => ?_) (fun c_9 => ?_)
    · skip
      refine V_iconst (v := 0) 44 dX4_knows_43 rfl (by decide) ?_
      refine V_iret dX4_knows_44 rfl rfl ?_ (by first | exact Nat.le_refl _ | decide | omega) (by first | exact Nat.le_refl _ | decide | omega)
      refine hN ?_
      rintro ⟨x, hx, h1, h2⟩
      obtain ⟨k, hk, rfl⟩ := kl_mem.mp hx
      exact hno k hk ⟨h1, h2⟩
    · skip
      exact absurd (nI_le (Nat.le_refl _) (by omega)) c_9
  | succ m ih =>
    intro i hi hno
    refine V_iload 5 dX4_knows_3 rfl rfl ?_
    refine V_aload_n 6 dX4_knows_5 rfl rfl ?_
    refine V_getiV 9 4 3 fl_X4_22 dX4_knows_6 rfl rfl (by decide) rfl (by decide) e ?_
    refine V_icmp_ge 43 12 dX4_knows_9 rfl rfl (fun c_9 => ?_) (fun c_9 => ?_)
    · skip
      exact absurd c_9 (nI_ge (by omega) (by omega))
    · skip
      refine V_aload_n 13 dX4_knows_12 rfl rfl ?_
      refine V_getR 16 4 0 fl_X4_9 dX4_knows_13 rfl rfl (by decide) (Or.inr ⟨_, rfl⟩) (by decide) (sh_4_0 hS) ?_
      refine V_iload 18 dX4_knows_16 rfl rfl ?_
      refine V_laldN 19 (_) dX4_knows_18 rfl rfl (by decide) rfl (show _ < 300 by omega) (by decide) ?_
      refine V_lload_n 20 dX4_knows_19 rfl rfl ?_
      refine V_lcmp 21 dX4_knows_20 rfl ?_
      refine V_if_ne 37 24 dX4_knows_21 rfl rfl (fun c_21 => ?_) (fun c_21 => ?_)
      · (rw [lg_eq] at c_21)
        refine V_iincN 40 dX4_knows_37 rfl rfl (by decide) ?_
        refine V_goto 3 dX4_knows_40 rfl ?_
        refine V_at (ih (i + 1) (by omega) (fun k hk => ?_)) ⟨rfl, rfl, rfl, rfl, trivial⟩
        rcases Nat.lt_or_ge k i with q | q
        · exact hno k q
        · have : k = i := by omega
          subst this
          grind
      · (rw [lg_eq] at c_21)
        refine V_aload_n 25 dX4_knows_24 rfl rfl ?_
        refine V_getR 28 4 1 fl_X4_15 dX4_knows_25 rfl rfl (by decide) (Or.inr ⟨_, rfl⟩) (by decide) (sh_4_1 hS) ?_
        refine V_iload 30 dX4_knows_28 rfl rfl ?_
        refine V_ialdN 31 (_) dX4_knows_30 rfl rfl (by decide) rfl (show _ < 300 by omega) (by decide) ?_
        refine V_iload_n 32 dX4_knows_31 rfl rfl ?_
        refine V_icmp_ne 37 35 dX4_knows_32 rfl rfl (fun c_32 => ?_) (fun c_32 => ?_)
        · skip
          refine V_iincN 40 dX4_knows_37 rfl rfl (by decide) ?_
          refine V_goto 3 dX4_knows_40 rfl ?_
          refine V_at (ih (i + 1) (by omega) (fun k hk => ?_)) ⟨rfl, rfl, rfl, rfl, trivial⟩
          rcases Nat.lt_or_ge k i with q | q
          · exact hno k q
          · have : k = i := by omega
            subst this
            grind
        · skip
          refine V_iconst (v := 1) 36 dX4_knows_35 rfl (by decide) ?_
          refine V_iret dX4_knows_36 rfl rfl ?_ (by first | exact Nat.le_refl _ | decide | omega) (by first | exact Nat.le_refl _ | decide | omega)
          exact hY ⟨_, kl_mem.mpr ⟨i, by omega, rfl⟩, c_21, c_32⟩
theorem ct_X4_knows {nk : Nat} {key : Int64} {t : Int32} (hS : SHC h NA NH NI) (e : qg_i h 6 0 3 = nI nk) (hnk : nk ≤ 300) : qM yX4_knows cX4_knows 5 ((some .boolean)) 0 0 0 0 [.inr (.inr (some (6, 0))), .inl t, .inr (.inl key)] h (pI fun x h' => ((kn (kl h 7 8 9 nk) key t ∧ x = 1) ∨ (¬ kn (kl h 7 8 9 nk) key t ∧ x = 0)) ∧ h' = h) := by
  refine qM.of (plainFor_of_name (by decide)) (Nat.le_of_ble_eq_true rfl) ?_
  refine V_iconst (v := 0) 1 dX4_knows_0 rfl (by decide) ?_
  refine V_istore 3 dX4_knows_1 rfl (by decide) ?_
  exact V_at (lp_X4_knows hS e hnk (fun q => ⟨_, rfl, Or.inl ⟨q, rfl⟩, rfl⟩) (fun q => ⟨_, rfl, Or.inr ⟨q, rfl⟩, rfl⟩) nk 0 (by omega) (fun k hk => absurd hk (Nat.not_lt_zero k))) ⟨rfl, rfl, rfl, rfl, trivial⟩
def f_put (h : qH) (nk : Nat) (key : Int64) (t mi : Int32) : qH := qs_i (qs_i (qs_i (qs_l h 7 0 nk key) 8 0 nk t) 9 0 nk mi) 6 0 3 (nI (nk + 1))
theorem ct_X4_learn {nk : Nat} {key : Int64} {t mi : Int32} (hS : SHC h NA NH NI) (e : qg_i h 6 0 3 = nI nk) (hnk : nk ≤ 300) : qM yX4_learn cX4_learn 5 ((some .boolean)) 0 0 0 0 [.inr (.inr (some (6, 0))), .inl t, .inr (.inl key), .inl mi] h (pI fun x h' => (nk = 300 ∧ x = 0 ∧ h' = h) ∨ (nk < 300 ∧ x = 1 ∧ h' = f_put h nk key t mi)) := by
  have e3 : nI nk < nI 300 ↔ nk < 300 := nI_ltI (by omega) (by omega)
  refine qM.of (plainFor_of_name (by decide)) (Nat.le_of_ble_eq_true rfl) ?_
  refine V_aload_n 1 dX4_learn_0 rfl rfl ?_
  refine V_getiV 4 4 3 fl_X4_22 dX4_learn_1 rfl rfl (by decide) rfl (by decide) e ?_
  refine V_sipush (v := 300) 7 dX4_learn_4 rfl (by decide) ?_
  refine V_icmp_lt 12 10 dX4_learn_7 rfl rfl (fun c_7 => ?_) (fun c_7 => ?_)
  · skip
    have hlt : nk < 300 := e3.mp c_7
    refine V_aload_n 13 dX4_learn_12 rfl rfl ?_
    refine V_getR 16 4 0 fl_X4_9 dX4_learn_13 rfl rfl (by decide) (Or.inr ⟨_, rfl⟩) (by decide) (sh_4_0 hS) ?_
    refine V_aload_n 17 dX4_learn_16 rfl rfl ?_
    refine V_getiV 20 4 3 fl_X4_22 dX4_learn_17 rfl rfl (by decide) rfl (by decide) e ?_
    refine V_lload_n 21 dX4_learn_20 rfl rfl ?_
    refine V_lastN 22 (_) dX4_learn_21 rfl rfl (by decide) rfl (show _ < 300 by omega) (by decide) ?_
    refine V_aload_n 23 dX4_learn_22 rfl rfl ?_
    refine V_getR 26 4 1 fl_X4_15 dX4_learn_23 rfl rfl (by decide) (Or.inr ⟨_, rfl⟩) (by decide) (sh_4_1 hS) ?_
    refine V_aload_n 27 dX4_learn_26 rfl rfl ?_
    refine V_getiV 30 4 3 fl_X4_22 dX4_learn_27 rfl rfl (by decide) rfl (by decide) e ?_
    refine V_iload_n 31 dX4_learn_30 rfl rfl ?_
    refine V_iastN 32 (_) dX4_learn_31 rfl rfl (by decide) rfl (show _ < 300 by omega) (by decide) ?_
    refine V_aload_n 33 dX4_learn_32 rfl rfl ?_
    refine V_getR 36 4 2 fl_X4_19 dX4_learn_33 rfl rfl (by decide) (Or.inr ⟨_, rfl⟩) (by decide) (sh_4_2 hS) ?_
    refine V_aload_n 37 dX4_learn_36 rfl rfl ?_
    refine V_getiV 40 4 3 fl_X4_22 dX4_learn_37 rfl rfl (by decide) rfl (by decide) e ?_
    refine V_iload 42 dX4_learn_40 rfl rfl ?_
    refine V_iastN 43 (_) dX4_learn_42 rfl rfl (by decide) rfl (show _ < 300 by omega) (by decide) ?_
    refine V_aload_n 44 dX4_learn_43 rfl rfl ?_
    refine V_dup 45 dX4_learn_44 rfl ?_
    refine V_getiV 48 4 3 fl_X4_22 dX4_learn_45 rfl rfl (by decide) rfl (by decide) e ?_
    refine V_iconst (v := 1) 49 dX4_learn_48 rfl (by decide) ?_
    refine V_iadd 50 dX4_learn_49 rfl ?_
    rw [nI_1]
    refine V_puti 53 4 3 fl_X4_22 dX4_learn_50 rfl rfl (by decide) rfl (by decide) (Or.inl rfl) ?_
    refine V_iconst (v := 1) 54 dX4_learn_53 rfl (by decide) ?_
    refine V_iret dX4_learn_54 rfl rfl ⟨_, rfl, ?_⟩ (by first | exact Nat.le_refl _ | decide | omega) (by first | exact Nat.le_refl _ | decide | omega)
    exact Or.inr ⟨hlt, rfl, rfl⟩
  · skip
    refine V_iconst (v := 0) 11 dX4_learn_10 rfl (by decide) ?_
    refine V_iret dX4_learn_11 rfl rfl ⟨_, rfl, ?_⟩ (by first | exact Nat.le_refl _ | decide | omega) (by first | exact Nat.le_refl _ | decide | omega)
    exact Or.inl ⟨by have : ¬ nk < 300 := fun q => c_7 (e3.mpr q); omega, rfl, rfl⟩
def KFC (h g : qH) : Prop := (qg_n g = qg_n h ∧ qg_r g = qg_r h) ∧ ∀ r i k, ¬ (r = 7 ∨ r = 8 ∨ r = 9 ∨ (r = 6 ∧ k = 3)) → qg_i g r i k = qg_i h r i k ∧ qg_l g r i k = qg_l h r i k
def FGC (h : qH) (now : Int32) (nk : Nat) (g : qH) (ng : Nat) : Prop := qg_i g 6 0 3 = nI ng ∧ ng ≤ nk ∧ kl g 7 8 9 ng = (kl h 7 8 9 nk).filter (fun e => now - e.2.2 < 1000) ∧ KFC h g
theorem lp_X4_forget {nk : Nat} {now : Int32} (hS : SHC h NA NH NI) (hnk : nk ≤ 300) {n0 : Nat → Nat} {Post : Option qV → qH → Prop} (hP : ∀ g ng, FGC h now nk g ng → Post none g) :
    ∀ (m i n : Nat) (g : qH), i + m = nk → n ≤ i → kl g 7 8 9 n = (kl h 7 8 9 i).filter (fun e => now - e.2.2 < 1000) → (∀ k, i ≤ k → qg_l g 7 0 k = qg_l h 7 0 k ∧ qg_i g 8 0 k = qg_i h 8 0 k ∧ qg_i g 9 0 k = qg_i h 9 0 k) → KFC h g → qg_i g 6 0 3 = nI nk →
      Vw yX4_forgetOld cX4_forgetOld 4 none (qrm 0 0 0 0) 0 0 n0 Post 4 [(0, .inr (.inr (some (6, 0)))), (1, .inl now), (2, .inl (nI n)), (3, .inl (nI i))] [] g 0 0 := by
  intro m
  induction m with
  | zero =>
    intro i n g hi hn hk1 hk2 hk3 hk4
    have hi : i = nk := by omega
    subst hi
    refine V_iload_n 5 dX4_forgetOld_4 rfl rfl ?_
    refine V_aload_n 6 dX4_forgetOld_5 rfl rfl ?_
    refine V_getiV 9 4 3 fl_X4_22 dX4_forgetOld_6 rfl rfl (by decide) rfl (by decide) hk4 ?_
    refine V_icmp_ge 71 12 dX4_forgetOld_9 rfl rfl (fun c_9 => ?_) (fun c_9 => ?_)
    · skip
      refine V_aload_n 72 dX4_forgetOld_71 rfl rfl ?_
      refine V_iload_n 73 dX4_forgetOld_72 rfl rfl ?_
      refine V_puti 76 4 3 fl_X4_22 dX4_forgetOld_73 rfl rfl (by decide) rfl (by decide) (Or.inl rfl) ?_
      refine V_vret dX4_forgetOld_76 rfl ?_ (by first | exact Nat.le_refl _ | decide | omega) (by first | exact Nat.le_refl _ | decide | omega)
      refine hP _ n ⟨by simp [qii], hn, ?_, hk3.1, fun r i k hk => ?_⟩
      · rw [← hk1]
        exact kl_congr (fun k _ => ⟨rfl, rfl, rfl⟩)
      · rw [← (hk3.2 r i k hk).1, ← (hk3.2 r i k hk).2]
        refine ⟨?_, rfl⟩
        rw [qii, if_neg]
        rintro ⟨q1, -, q3⟩
        exact hk (Or.inr (Or.inr (Or.inr ⟨q1, q3⟩)))
    · skip
      exact absurd (nI_le (Nat.le_refl _) (by omega)) c_9
  | succ m ih =>
    intro i n g hi hn hk1 hk2 hk3 hk4
    obtain ⟨j1, j2, j3⟩ := hk2 i (Nat.le_refl _)
    have hSg : SHC g NA NH NI := by unfold SHC; rw [hk3.1.2]; exact hS
    refine V_iload_n 5 dX4_forgetOld_4 rfl rfl ?_
    refine V_aload_n 6 dX4_forgetOld_5 rfl rfl ?_
    refine V_getiV 9 4 3 fl_X4_22 dX4_forgetOld_6 rfl rfl (by decide) rfl (by decide) hk4 ?_
    refine V_icmp_ge 71 12 dX4_forgetOld_9 rfl rfl (fun c_9 => ?_) (fun c_9 => ?_)
    · skip
      exact absurd c_9 (nI_ge (by omega) (by omega))
    · skip
      refine V_iload_n 13 dX4_forgetOld_12 rfl rfl ?_
      refine V_aload_n 14 dX4_forgetOld_13 rfl rfl ?_
      refine V_getR 17 4 2 fl_X4_19 dX4_forgetOld_14 rfl rfl (by decide) (Or.inr ⟨_, rfl⟩) (by decide) (sh_4_2 hSg) ?_
      refine V_iload_n 18 dX4_forgetOld_17 rfl rfl ?_
      refine V_ialdV 19 (_) dX4_forgetOld_18 rfl rfl (by decide) rfl (show _ < 300 by omega) (by decide) j3 ?_
      refine V_isub 20 dX4_forgetOld_19 rfl ?_
      refine V_sipush (v := 1000) 23 dX4_forgetOld_20 rfl (by decide) ?_
      refine V_icmp_ge 65 26 dX4_forgetOld_23 rfl rfl (fun c_23 => ?_) (fun c_23 => ?_)
      · skip
        refine V_iincN 68 dX4_forgetOld_65 rfl rfl (by decide) ?_
        refine V_goto 4 dX4_forgetOld_68 rfl ?_
        have hlist : kl h 7 8 9 (i + 1) = kl h 7 8 9 i ++ [(qg_l h 7 0 i, qg_i h 8 0 i, qg_i h 9 0 i)] := kl_succ _ _ _ _ _
        first
          | refine V_at (ih (i + 1) n g (by omega) (by omega) ?_ (fun k hk => hk2 k (by omega)) hk3 hk4) ⟨rfl, rfl, rfl, rfl, trivial⟩
            rw [hlist, List.filter_append, hk1]
            have : ¬ now - qg_i h 9 0 i < 1000 := by grind
            simp [this]
          | refine V_at (ih (i + 1) (n + 1) _ (by omega) (by omega) ?_ (fun k hk => ?_) ⟨hk3.1, fun r i k hk => ?_⟩ hk4) ⟨rfl, rfl, rfl, rfl, trivial⟩
            · rw [kl_push (by decide), hlist, List.filter_append, hk1]
              have : now - qg_i h 9 0 i < 1000 := by grind
              simp [this]
            · rw [← (hk2 k (by omega)).1, ← (hk2 k (by omega)).2.1, ← (hk2 k (by omega)).2.2]
              have : k ≠ n := by omega
              simp [qii, qll, qli, qil, this]
            · rw [← (hk3.2 r i k hk).1, ← (hk3.2 r i k hk).2]
              have q1 : r ≠ 7 := fun q => hk (Or.inl q)
              have q2 : r ≠ 8 := fun q => hk (Or.inr (Or.inl q))
              have q3 : r ≠ 9 := fun q => hk (Or.inr (Or.inr (Or.inl q)))
              simp [qii, qll, qli, qil, q1, q2, q3]
      · skip
        refine V_aload_n 27 dX4_forgetOld_26 rfl rfl ?_
        refine V_getR 30 4 0 fl_X4_9 dX4_forgetOld_27 rfl rfl (by decide) (Or.inr ⟨_, rfl⟩) (by decide) (sh_4_0 hSg) ?_
        refine V_iload_n 31 dX4_forgetOld_30 rfl rfl ?_
        refine V_aload_n 32 dX4_forgetOld_31 rfl rfl ?_
        refine V_getR 35 4 0 fl_X4_9 dX4_forgetOld_32 rfl rfl (by decide) (Or.inr ⟨_, rfl⟩) (by decide) (sh_4_0 hSg) ?_
        refine V_iload_n 36 dX4_forgetOld_35 rfl rfl ?_
        refine V_laldV 37 (_) dX4_forgetOld_36 rfl rfl (by decide) rfl (show _ < 300 by omega) (by decide) j1 ?_
        refine V_lastN 38 (_) dX4_forgetOld_37 rfl rfl (by decide) rfl (show _ < 300 by omega) (by decide) ?_
        refine V_aload_n 39 dX4_forgetOld_38 rfl rfl ?_
        refine V_getR 42 4 1 fl_X4_15 dX4_forgetOld_39 rfl rfl (by decide) (Or.inr ⟨_, rfl⟩) (by decide) (sh_4_1 hSg) ?_
        refine V_iload_n 43 dX4_forgetOld_42 rfl rfl ?_
        refine V_aload_n 44 dX4_forgetOld_43 rfl rfl ?_
        refine V_getR 47 4 1 fl_X4_15 dX4_forgetOld_44 rfl rfl (by decide) (Or.inr ⟨_, rfl⟩) (by decide) (sh_4_1 hSg) ?_
        refine V_iload_n 48 dX4_forgetOld_47 rfl rfl ?_
        refine V_ialdV 49 (_) dX4_forgetOld_48 rfl rfl (by decide) rfl (show _ < 300 by omega) (by decide) j2 ?_
        refine V_iastN 50 (_) dX4_forgetOld_49 rfl rfl (by decide) rfl (show _ < 300 by omega) (by decide) ?_
        refine V_aload_n 51 dX4_forgetOld_50 rfl rfl ?_
        refine V_getR 54 4 2 fl_X4_19 dX4_forgetOld_51 rfl rfl (by decide) (Or.inr ⟨_, rfl⟩) (by decide) (sh_4_2 hSg) ?_
        refine V_iload_n 55 dX4_forgetOld_54 rfl rfl ?_
        refine V_aload_n 56 dX4_forgetOld_55 rfl rfl ?_
        refine V_getR 59 4 2 fl_X4_19 dX4_forgetOld_56 rfl rfl (by decide) (Or.inr ⟨_, rfl⟩) (by decide) (sh_4_2 hSg) ?_
        refine V_iload_n 60 dX4_forgetOld_59 rfl rfl ?_
        refine V_ialdV 61 (_) dX4_forgetOld_60 rfl rfl (by decide) rfl (show _ < 300 by omega) (by decide) j3 ?_
        refine V_iastN 62 (_) dX4_forgetOld_61 rfl rfl (by decide) rfl (show _ < 300 by omega) (by decide) ?_
        refine V_iincN 65 dX4_forgetOld_62 rfl rfl (by decide) ?_
        refine V_iincN 68 dX4_forgetOld_65 rfl rfl (by decide) ?_
        refine V_goto 4 dX4_forgetOld_68 rfl ?_
        have hlist : kl h 7 8 9 (i + 1) = kl h 7 8 9 i ++ [(qg_l h 7 0 i, qg_i h 8 0 i, qg_i h 9 0 i)] := kl_succ _ _ _ _ _
        first
          | refine V_at (ih (i + 1) n g (by omega) (by omega) ?_ (fun k hk => hk2 k (by omega)) hk3 hk4) ⟨rfl, rfl, rfl, rfl, trivial⟩
            rw [hlist, List.filter_append, hk1]
            have : ¬ now - qg_i h 9 0 i < 1000 := by grind
            simp [this]
          | refine V_at (ih (i + 1) (n + 1) _ (by omega) (by omega) ?_ (fun k hk => ?_) ⟨hk3.1, fun r i k hk => ?_⟩ hk4) ⟨rfl, rfl, rfl, rfl, trivial⟩
            · rw [kl_push (by decide), hlist, List.filter_append, hk1]
              have : now - qg_i h 9 0 i < 1000 := by grind
              simp [this]
            · rw [← (hk2 k (by omega)).1, ← (hk2 k (by omega)).2.1, ← (hk2 k (by omega)).2.2]
              have : k ≠ n := by omega
              simp [qii, qll, qli, qil, this]
            · rw [← (hk3.2 r i k hk).1, ← (hk3.2 r i k hk).2]
              have q1 : r ≠ 7 := fun q => hk (Or.inl q)
              have q2 : r ≠ 8 := fun q => hk (Or.inr (Or.inl q))
              have q3 : r ≠ 9 := fun q => hk (Or.inr (Or.inr (Or.inl q)))
              simp [qii, qll, qli, qil, q1, q2, q3]
theorem ct_X4_forgetOld {nk : Nat} {now : Int32} (hS : SHC h NA NH NI) (e : qg_i h 6 0 3 = nI nk) (hnk : nk ≤ 300) : qM yX4_forgetOld cX4_forgetOld 4 none 0 0 0 0 [.inr (.inr (some (6, 0))), .inl now] h (pV fun g => ∃ ng, FGC h now nk g ng) := by
  refine qM.of (plainFor_of_name (by decide)) (Nat.le_of_ble_eq_true rfl) ?_
  refine V_iconst (v := 0) 1 dX4_forgetOld_0 rfl (by decide) ?_
  refine V_istore_n 2 dX4_forgetOld_1 rfl (by decide) ?_
  refine V_iconst (v := 0) 3 dX4_forgetOld_2 rfl (by decide) ?_
  refine V_istore_n 4 dX4_forgetOld_3 rfl (by decide) ?_
  exact V_at (lp_X4_forget hS hnk (fun g ng q => ⟨rfl, ng, q⟩) nk 0 0 h (by omega) (by omega) rfl (fun k _ => ⟨rfl, rfl, rfl⟩) ⟨⟨rfl, rfl⟩, fun _ _ _ _ => ⟨rfl, rfl⟩⟩ e) ⟨rfl, rfl, rfl, rfl, trivial⟩
end CA
