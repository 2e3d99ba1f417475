/-! The class: credits, invoices, tenants -/
theorem i32_min (x : Int32) : (-2147483648 : Int32) ≤ x := by
  rw [Int32.le_iff_toInt_le]
  have := x.le_toInt
  show (-2147483648 : Int) ≤ _
  omega
section CC
variable {h : qH} {NA NH NI : Nat}
def f_some1 (h : qH) (t k : Nat) : Int32 := if 0 < qg_l h 16 t k then 1 else 0
theorem lp_X1_count {t nc : Nat} (hS : SHC h NA NH NI) (ht : t < 6) (e : qg_i h 15 t 2 = nI nc) (hnc : nc ≤ 40) {n0 : Nat → Nat} {Post : Option qV → qH → Prop} (hP : Post (some (.inl (sm_i (f_some1 h t) nc))) h) :
    ∀ (m i : Nat), i + m = nc → Vw yX1_countLasting cX1_countLasting 3 ((some .int)) (qrm 0 0 0 0) 0 0 n0 Post 4 [(0, .inr (.inr (some (15, t)))), (1, .inl (sm_i (f_some1 h t) i)), (2, .inl (nI i))] [] h 0 0 := by
  intro m
  induction m with
  | zero =>
    intro i hi
    have hi : i = nc := by omega
    subst hi
    refine V_iload_n 5 dX1_countLasting_4 rfl rfl ?_
    refine V_aload_n 6 dX1_countLasting_5 rfl rfl ?_
    refine V_getiV 9 1 2 fl_X1_19 dX1_countLasting_6 rfl rfl (by decide) rfl (by decide) e ?_
    refine V_icmp_ge 32 12 dX1_countLasting_9 rfl rfl (fun c_9 => ?_) (fun c_9 => ?_)
    · skip
      refine V_iload_n 33 dX1_countLasting_32 rfl rfl ?_
      refine V_iret dX1_countLasting_33 rfl rfl ?_ (by first | exact Nat.le_refl _ | decide | omega) (by first | exact Nat.le_refl _ | decide | omega)
      exact hP
    · skip
      exact absurd (nI_le (Nat.le_refl _) (by omega)) c_9
  | succ m ih =>
    intro i hi
    refine V_iload_n 5 dX1_countLasting_4 rfl rfl ?_
    refine V_aload_n 6 dX1_countLasting_5 rfl rfl ?_
    refine V_getiV 9 1 2 fl_X1_19 dX1_countLasting_6 rfl rfl (by decide) rfl (by decide) e ?_
    refine V_icmp_ge 32 12 dX1_countLasting_9 rfl rfl (fun c_9 => ?_) (fun c_9 => ?_)
    · skip
      exact absurd c_9 (nI_ge (by omega) (by omega))
    · skip
      refine V_aload_n 13 dX1_countLasting_12 rfl rfl ?_
      refine V_getR 16 1 0 fl_X1_9 dX1_countLasting_13 rfl rfl (by decide) (Or.inr ⟨_, rfl⟩) (by decide) (sh_1_0 hS (by omega)) ?_
      refine V_iload_n 17 dX1_countLasting_16 rfl rfl ?_
      refine V_laldN 18 (_) dX1_countLasting_17 rfl rfl (by decide) rfl (show _ < 40 by omega) (by decide) ?_
      refine V_lconst (v := 0) 19 dX1_countLasting_18 rfl (by decide) ?_
      refine V_lcmp 20 dX1_countLasting_19 rfl ?_
      refine V_if_le 26 23 dX1_countLasting_20 rfl rfl (fun c_20 => ?_) (fun c_20 => ?_)
      · (rw [lg_le] at c_20)
        refine V_iincN 29 dX1_countLasting_26 rfl rfl (by decide) ?_
        refine V_goto 4 dX1_countLasting_29 rfl ?_
        refine V_at (ih (i + 1) (by omega)) ⟨rfl, ?_, rfl, trivial⟩
        show some _ = some _
        simp only [sm_i, f_some1]
        grind
      · (rw [lg_le] at c_20)
        refine V_iinc1 26 dX1_countLasting_23 rfl rfl (by decide) ?_
        refine V_iincN 29 dX1_countLasting_26 rfl rfl (by decide) ?_
        refine V_goto 4 dX1_countLasting_29 rfl ?_
        refine V_at (ih (i + 1) (by omega)) ⟨rfl, ?_, rfl, trivial⟩
        show some _ = some _
        simp only [sm_i, f_some1]
        grind
theorem ct_X1_countLasting {t nc : Nat} (hS : SHC h NA NH NI) (ht : t < 6) (e : qg_i h 15 t 2 = nI nc) (hnc : nc ≤ 40) : qM yX1_countLasting cX1_countLasting 3 ((some .int)) 0 0 0 0 [.inr (.inr (some (15, t)))] h (pI fun x h' => x = sm_i (f_some1 h t) nc ∧ h' = h) := by
  refine qM.of (plainFor_of_name (by decide)) (Nat.le_of_ble_eq_true rfl) ?_
  refine V_iconst (v := 0) 1 dX1_countLasting_0 rfl (by decide) ?_
  refine V_istore_n 2 dX1_countLasting_1 rfl (by decide) ?_
  refine V_iconst (v := 0) 3 dX1_countLasting_2 rfl (by decide) ?_
  refine V_istore_n 4 dX1_countLasting_3 rfl (by decide) ?_
  exact V_at (lp_X1_count hS ht e hnc ⟨_, rfl, rfl, rfl⟩ nc 0 (by omega)) ⟨rfl, rfl, rfl, trivial⟩
theorem ct_X1_give {t nc : Nat} {m : Int64} {p : Int32} (hS : SHC h NA NH NI) (ht : t < 6) (e : qg_i h 15 t 2 = nI nc) (hnc : nc ≤ 40) : qM yX1_give cX1_give 4 ((some .int)) 1 22 0 0 [.inr (.inr (some (15, t))), .inr (.inl m), .inl p] h (pI fun x h' => (x = -3 ∧ h' = h ∧ (nc = 40 ∨ 10 ≤ sm_i (f_some1 h t) nc)) ∨ (x = nI nc ∧ h' = qs_i (qs_i (qs_l h 16 t nc m) 17 t nc p) 15 t 2 (nI (nc + 1)) ∧ nc < 40 ∧ ¬ 10 ≤ sm_i (f_some1 h t) nc)) := by
  have e3 : nI 40 ≤ nI nc ↔ 40 ≤ nc := nI_leI (by omega) (by omega)
  refine qM.of (plainFor_of_name (by decide)) (Nat.le_of_ble_eq_true rfl) ?_
  refine V_aload_n 1 dX1_give_0 rfl rfl ?_
  refine V_getiV 4 1 2 fl_X1_19 dX1_give_1 rfl rfl (by decide) rfl (by decide) e ?_
  refine V_bipush (v := 40) 6 dX1_give_4 rfl (by decide) ?_
  refine V_icmp_ge 18 9 dX1_give_6 rfl rfl (fun c_6 => ?_) (fun c_6 => ?_)
  · skip
    have hge : 40 ≤ nc := e3.mp c_6
    refine V_bipush (v := (-3)) 20 dX1_give_18 rfl (by decide) ?_
    refine V_iret dX1_give_20 rfl rfl ⟨_, rfl, ?_⟩ (by first | exact Nat.le_refl _ | decide | omega) (by first | exact Nat.le_refl _ | decide | omega)
    exact Or.inl ⟨rfl, rfl, by first | exact Or.inl (by omega) | exact Or.inr (by grind)⟩
  · skip
    have hlt : ¬ 40 ≤ nc := fun q => c_6 (e3.mpr q)
    refine V_aload_n 10 dX1_give_9 rfl rfl ?_
    refine V_cV0i 13 (ct_X1_countLasting hS ht e hnc) cs_X1_23 rfl rfl (by decide) dX1_give_10 rfl ⟨Nat.le_of_ble_eq_true rfl, Nat.le_of_ble_eq_true rfl⟩ (Nat.le_of_ble_eq_true rfl) ⟨Nat.le_of_ble_eq_true rfl, Nat.le_of_ble_eq_true rfl⟩ (fun x h' hx hle => ?_)
    obtain ⟨rfl, rfl⟩ := hx
    refine V_bipush (v := 10) 15 dX1_give_13 rfl (by decide) ?_
    refine V_icmp_lt 21 18 dX1_give_15 rfl rfl (fun c_15 => ?_) (fun c_15 => ?_)
    · skip
      refine V_aload_n 22 dX1_give_21 rfl rfl ?_
      refine V_getR 25 1 0 fl_X1_9 dX1_give_22 rfl rfl (by decide) (Or.inr ⟨_, rfl⟩) (by decide) (sh_1_0 hS (by omega)) ?_
      refine V_aload_n 26 dX1_give_25 rfl rfl ?_
      refine V_getiV 29 1 2 fl_X1_19 dX1_give_26 rfl rfl (by decide) rfl (by decide) e ?_
      refine V_lload_n 30 dX1_give_29 rfl rfl ?_
      refine V_lastN 31 (_) dX1_give_30 rfl rfl (by decide) rfl (show _ < 40 by omega) (by decide) ?_
      refine V_aload_n 32 dX1_give_31 rfl rfl ?_
      refine V_getR 35 1 1 fl_X1_15 dX1_give_32 rfl rfl (by decide) (Or.inr ⟨_, rfl⟩) (by decide) (sh_1_1 hS (by omega)) ?_
      refine V_aload_n 36 dX1_give_35 rfl rfl ?_
      refine V_getiV 39 1 2 fl_X1_19 dX1_give_36 rfl rfl (by decide) rfl (by decide) e ?_
      refine V_iload_n 40 dX1_give_39 rfl rfl ?_
      refine V_iastN 41 (_) dX1_give_40 rfl rfl (by decide) rfl (show _ < 40 by omega) (by decide) ?_
      refine V_aload_n 42 dX1_give_41 rfl rfl ?_
      refine V_dup 43 dX1_give_42 rfl ?_
      refine V_getiV 46 1 2 fl_X1_19 dX1_give_43 rfl rfl (by decide) rfl (by decide) e ?_
      refine V_iconst (v := 1) 47 dX1_give_46 rfl (by decide) ?_
      refine V_iadd 48 dX1_give_47 rfl ?_
      rw [nI_1]
      refine V_puti 51 1 2 fl_X1_19 dX1_give_48 rfl rfl (by decide) rfl (by decide) (Or.inl rfl) ?_
      refine V_aload_n 52 dX1_give_51 rfl rfl ?_
      refine V_getiV 55 1 2 fl_X1_19 dX1_give_52 rfl rfl (by decide) rfl (by decide) (show _ = nI (nc + 1) by simp [qii]) ?_
      refine V_iconst (v := 1) 56 dX1_give_55 rfl (by decide) ?_
      refine V_isub 57 dX1_give_56 rfl ?_
      rw [nI_pred]
      refine V_iret dX1_give_57 rfl rfl ⟨_, rfl, ?_⟩ (by first | exact Nat.le_refl _ | decide | omega) (by first | exact Nat.le_refl _ | decide | omega)
      exact Or.inr ⟨rfl, rfl, by omega, by grind⟩
    · skip
      refine V_bipush (v := (-3)) 20 dX1_give_18 rfl (by decide) ?_
      refine V_iret dX1_give_20 rfl rfl ⟨_, rfl, ?_⟩ (by first | exact Nat.le_refl _ | decide | omega) (by first | exact Nat.le_refl _ | decide | omega)
      exact Or.inl ⟨rfl, rfl, by first | exact Or.inl (by omega) | exact Or.inr (by grind)⟩
def bi1 : Option Nat → Int32
  | none => -1
  | some b => nI b
def f_cl (g : qH) (t : Nat) : Nat → Int32 := fun k => qg_i g 17 t k
def f_cf (g : qH) (t : Nat) : Nat → Int64 := fun k => qg_l g 16 t k
theorem lp_X1_next {t nc : Nat} (hS : SHC h NA NH NI) (ht : t < 6) (e : qg_i h 15 t 2 = nI nc) (hnc : nc ≤ 40) {n0 : Nat → Nat} {Post : Option qV → qH → Prop} (hP : Post (some (.inl (bi1 (bst (f_cl h t) (f_cf h t) (-2147483648) nc)))) h) :
    ∀ (m k : Nat), k + m = nc → Vw yX1_nextToUse cX1_nextToUse 3 ((some .int)) (qrm 0 0 0 0) 0 0 n0 Post 4 [(0, .inr (.inr (some (15, t)))), (1, .inl (bi1 (bst (f_cl h t) (f_cf h t) (-2147483648) k))), (2, .inl (nI k))] [] h 0 0 := by
  intro m
  induction m with
  | zero =>
    intro k hk
    have hk : k = nc := by omega
    subst hk
    refine V_iload_n 5 dX1_nextToUse_4 rfl rfl ?_
    refine V_aload_n 6 dX1_nextToUse_5 rfl rfl ?_
    refine V_getiV 9 1 2 fl_X1_19 dX1_nextToUse_6 rfl rfl (by decide) rfl (by decide) e ?_
    refine V_icmp_ge 51 12 dX1_nextToUse_9 rfl rfl (fun c_9 => ?_) (fun c_9 => ?_)
    · skip
      refine V_iload_n 52 dX1_nextToUse_51 rfl rfl ?_
      refine V_iret dX1_nextToUse_52 rfl rfl ?_ (by first | exact Nat.le_refl _ | decide | omega) (by first | exact Nat.le_refl _ | decide | omega)
      exact hP
    · skip
      exact absurd (nI_le (Nat.le_refl _) (by omega)) c_9
  | succ m ih =>
    intro k hk
    have hmin := i32_min (qg_i h 17 t k)
    have hnx : ∀ o, o = bst (f_cl h t) (f_cf h t) (-2147483648) (k + 1) → Vw yX1_nextToUse cX1_nextToUse 3 ((some .int)) (qrm 0 0 0 0) 0 0 n0 Post 45 [(0, .inr (.inr (some (15, t)))), (1, .inl (bi1 o)), (2, .inl (nI k))] [] h 0 0 := by
      intro o ho
      subst ho
      refine V_iincN 48 dX1_nextToUse_45 rfl rfl (by decide) ?_
      refine V_goto 4 dX1_nextToUse_48 rfl ?_
      exact V_at (ih (k + 1) (by omega)) ⟨rfl, rfl, rfl, trivial⟩
    cases hb : bst (f_cl h t) (f_cf h t) (-2147483648) k with
    | none =>
      refine V_iload_n 5 dX1_nextToUse_4 rfl rfl ?_
      refine V_aload_n 6 dX1_nextToUse_5 rfl rfl ?_
      refine V_getiV 9 1 2 fl_X1_19 dX1_nextToUse_6 rfl rfl (by decide) rfl (by decide) e ?_
      refine V_icmp_ge 51 12 dX1_nextToUse_9 rfl rfl (fun c_9 => ?_) (fun c_9 => ?_)
      · skip
        exact absurd c_9 (nI_ge (by omega) (by omega))
      · skip
        refine V_aload_n 13 dX1_nextToUse_12 rfl rfl ?_
        refine V_getR 16 1 0 fl_X1_9 dX1_nextToUse_13 rfl rfl (by decide) (Or.inr ⟨_, rfl⟩) (by decide) (sh_1_0 hS (by omega)) ?_
        refine V_iload_n 17 dX1_nextToUse_16 rfl rfl ?_
        refine V_laldN 18 (_) dX1_nextToUse_17 rfl rfl (by decide) rfl (show _ < 40 by omega) (by decide) ?_
        refine V_lconst (v := 0) 19 dX1_nextToUse_18 rfl (by decide) ?_
        refine V_lcmp 20 dX1_nextToUse_19 rfl ?_
        refine V_if_le 45 23 dX1_nextToUse_20 rfl rfl (fun c_20 => ?_) (fun c_20 => ?_)
        · (rw [lg_le] at c_20)
          first
            | (refine V_at (hnx none ?_) ⟨rfl, rfl, rfl, trivial⟩; rw [bst, hb]; dsimp only; rw [if_neg]; intro q; have q2 := q.2; simp only [f_cl, f_cf] at q2; grind)
            | (refine V_at (hnx (some k) ?_) ⟨rfl, rfl, rfl, trivial⟩; rw [bst, hb]; dsimp only; rw [if_pos]; simp only [f_cl, f_cf]; grind)
        · (rw [lg_le] at c_20)
          refine V_iload_n 24 dX1_nextToUse_23 rfl rfl ?_
          refine V_iconst (v := (-1)) 25 dX1_nextToUse_24 rfl (by decide) ?_
          refine V_icmp_eq 43 28 dX1_nextToUse_25 rfl rfl (fun c_25 => ?_) (fun c_25 => ?_)
          · skip
            refine V_iload_n 44 dX1_nextToUse_43 rfl rfl ?_
            refine V_istore_n 45 dX1_nextToUse_44 rfl (by decide) ?_
            first
              | (refine V_at (hnx none ?_) ⟨rfl, rfl, rfl, trivial⟩; rw [bst, hb]; dsimp only; rw [if_neg]; intro q; have q2 := q.2; simp only [f_cl, f_cf] at q2; grind)
              | (refine V_at (hnx (some k) ?_) ⟨rfl, rfl, rfl, trivial⟩; rw [bst, hb]; dsimp only; rw [if_pos]; simp only [f_cl, f_cf]; grind)
          · skip
            exact absurd rfl c_25
    | some b =>
      obtain ⟨b1, b2, b3⟩ := bst_some hb
      refine V_iload_n 5 dX1_nextToUse_4 rfl rfl ?_
      refine V_aload_n 6 dX1_nextToUse_5 rfl rfl ?_
      refine V_getiV 9 1 2 fl_X1_19 dX1_nextToUse_6 rfl rfl (by decide) rfl (by decide) e ?_
      refine V_icmp_ge 51 12 dX1_nextToUse_9 rfl rfl (fun c_9 => ?_) (fun c_9 => ?_)
      · skip
        exact absurd c_9 (nI_ge (by omega) (by omega))
      · skip
        refine V_aload_n 13 dX1_nextToUse_12 rfl rfl ?_
        refine V_getR 16 1 0 fl_X1_9 dX1_nextToUse_13 rfl rfl (by decide) (Or.inr ⟨_, rfl⟩) (by decide) (sh_1_0 hS (by omega)) ?_
        refine V_iload_n 17 dX1_nextToUse_16 rfl rfl ?_
        refine V_laldN 18 (_) dX1_nextToUse_17 rfl rfl (by decide) rfl (show _ < 40 by omega) (by decide) ?_
        refine V_lconst (v := 0) 19 dX1_nextToUse_18 rfl (by decide) ?_
        refine V_lcmp 20 dX1_nextToUse_19 rfl ?_
        refine V_if_le 45 23 dX1_nextToUse_20 rfl rfl (fun c_20 => ?_) (fun c_20 => ?_)
        · (rw [lg_le] at c_20)
          first
            | (refine V_at (hnx (some b) ?_) ⟨rfl, rfl, rfl, trivial⟩; rw [bst, hb]; dsimp only; rw [if_neg]; intro q; have q2 := q.1.2; have q3 := q.2; simp only [f_cl, f_cf] at q2 q3; grind)
            | (refine V_at (hnx (some k) ?_) ⟨rfl, rfl, rfl, trivial⟩; rw [bst, hb]; dsimp only; rw [if_pos]; simp only [f_cl, f_cf]; grind)
        · (rw [lg_le] at c_20)
          refine V_iload_n 24 dX1_nextToUse_23 rfl rfl ?_
          refine V_iconst (v := (-1)) 25 dX1_nextToUse_24 rfl (by decide) ?_
          refine V_icmp_eq 43 28 dX1_nextToUse_25 rfl rfl (fun c_25 => ?_) (fun c_25 => ?_)
          · skip
            exact absurd c_25 (nI_ne_m1 (by omega))
          · skip
            refine V_aload_n 29 dX1_nextToUse_28 rfl rfl ?_
            refine V_getR 32 1 1 fl_X1_15 dX1_nextToUse_29 rfl rfl (by decide) (Or.inr ⟨_, rfl⟩) (by decide) (sh_1_1 hS (by omega)) ?_
            refine V_iload_n 33 dX1_nextToUse_32 rfl rfl ?_
            refine V_ialdN 34 (_) dX1_nextToUse_33 rfl rfl (by decide) rfl (show _ < 40 by omega) (by decide) ?_
            refine V_aload_n 35 dX1_nextToUse_34 rfl rfl ?_
            refine V_getR 38 1 1 fl_X1_15 dX1_nextToUse_35 rfl rfl (by decide) (Or.inr ⟨_, rfl⟩) (by decide) (sh_1_1 hS (by omega)) ?_
            refine V_iload_n 39 dX1_nextToUse_38 rfl rfl ?_
            refine V_ialdN 40 (b) dX1_nextToUse_39 rfl rfl (by decide) rfl (show _ < 40 by omega) (by decide) ?_
            refine V_icmp_ge 45 43 dX1_nextToUse_40 rfl rfl (fun c_40 => ?_) (fun c_40 => ?_)
            · skip
              first
                | (refine V_at (hnx (some b) ?_) ⟨rfl, rfl, rfl, trivial⟩; rw [bst, hb]; dsimp only; rw [if_neg]; intro q; have q2 := q.1.2; have q3 := q.2; simp only [f_cl, f_cf] at q2 q3; grind)
                | (refine V_at (hnx (some k) ?_) ⟨rfl, rfl, rfl, trivial⟩; rw [bst, hb]; dsimp only; rw [if_pos]; simp only [f_cl, f_cf]; grind)
            · skip
              refine V_iload_n 44 dX1_nextToUse_43 rfl rfl ?_
              refine V_istore_n 45 dX1_nextToUse_44 rfl (by decide) ?_
              first
                | (refine V_at (hnx (some b) ?_) ⟨rfl, rfl, rfl, trivial⟩; rw [bst, hb]; dsimp only; rw [if_neg]; intro q; have q2 := q.1.2; have q3 := q.2; simp only [f_cl, f_cf] at q2 q3; grind)
                | (refine V_at (hnx (some k) ?_) ⟨rfl, rfl, rfl, trivial⟩; rw [bst, hb]; dsimp only; rw [if_pos]; simp only [f_cl, f_cf]; grind)
theorem ct_X1_nextToUse {t nc : Nat} (hS : SHC h NA NH NI) (ht : t < 6) (e : qg_i h 15 t 2 = nI nc) (hnc : nc ≤ 40) : qM yX1_nextToUse cX1_nextToUse 3 ((some .int)) 0 0 0 0 [.inr (.inr (some (15, t)))] h (pI fun x h' => x = bi1 (bst (f_cl h t) (f_cf h t) (-2147483648) nc) ∧ h' = h) := by
  refine qM.of (plainFor_of_name (by decide)) (Nat.le_of_ble_eq_true rfl) ?_
  refine V_iconst (v := (-1)) 1 dX1_nextToUse_0 rfl (by decide) ?_
  refine V_istore_n 2 dX1_nextToUse_1 rfl (by decide) ?_
  refine V_iconst (v := 0) 3 dX1_nextToUse_2 rfl (by decide) ?_
  refine V_istore_n 4 dX1_nextToUse_3 rfl (by decide) ?_
  exact V_at (lp_X1_next hS ht e hnc ⟨_, rfl, rfl, rfl⟩ nc 0 (by omega)) ⟨rfl, rfl, rfl, trivial⟩
/-- credits end -/
def enF (h : qH) (t n : Nat) (p : Int32) : qH := (h.1, h.2.1, fun x y z => if x = 16 ∧ y = t ∧ z < n ∧ h.2.1 17 t z ≤ p then 0 else h.2.2.1 x y z, h.2.2.2)
theorem lp_X1_endIn {t nc : Nat} {p : Int32} (hS : SHC h NA NH NI) (ht : t < 6) (e : qg_i h 15 t 2 = nI nc) (hnc : nc ≤ 40) {n0 : Nat → Nat} {Post : Option qV → qH → Prop} (hP : Post none (enF h t nc p)) :
    ∀ (m k : Nat), k + m = nc → Vw yX1_endIn cX1_endIn 3 none (qrm 0 0 0 0) 0 0 n0 Post 2 [(0, .inr (.inr (some (15, t)))), (1, .inl p), (2, .inl (nI k))] [] (enF h t k p) 0 0 := by
  intro m
  induction m with
  | zero =>
    intro k hk
    have hk : k = nc := by omega
    subst hk
    refine V_iload_n 3 dX1_endIn_2 rfl rfl ?_
    refine V_aload_n 4 dX1_endIn_3 rfl rfl ?_
    refine V_getiV 7 1 2 fl_X1_19 dX1_endIn_4 rfl rfl (by decide) rfl (by decide) e ?_
    refine V_icmp_ge 33 10 dX1_endIn_7 rfl rfl (fun c_7 => ?_) (fun c_7 => ?_)
    · skip
      refine V_vret dX1_endIn_33 rfl ?_ (by first | exact Nat.le_refl _ | decide | omega) (by first | exact Nat.le_refl _ | decide | omega)
      exact hP
    · skip
      exact absurd (nI_le (Nat.le_refl _) (by omega)) c_7
  | succ m ih =>
    intro k hk
    have ih := ih (k + 1) (by omega)
    have e1 : qg_i h 17 t k ≤ p → enF h t (k + 1) p = qs_l (enF h t k p) 16 t k 0 := by
      intro hle
      unfold enF qs_l
      refine congrArg (fun x => (h.1, h.2.1, x, h.2.2.2)) ?_
      funext x y z
      by_cases q : x = 16 ∧ y = t ∧ z = k
      · obtain ⟨rfl, rfl, rfl⟩ := q
        rw [if_pos ⟨rfl, rfl, by omega, hle⟩, if_pos ⟨rfl, rfl, rfl⟩]
      · rw [if_neg q]
        dsimp only
        by_cases q2 : x = 16 ∧ y = t ∧ z < k ∧ h.2.1 17 t z ≤ p
        · rw [if_pos q2, if_pos ⟨q2.1, q2.2.1, by omega, q2.2.2.2⟩]
        · rw [if_neg q2, if_neg]
          rintro ⟨z1, z2, z3, z4⟩
          by_cases z5 : z = k
          · exact q ⟨z1, z2, z5⟩
          · exact q2 ⟨z1, z2, by omega, z4⟩
    have e2 : ¬ qg_i h 17 t k ≤ p → enF h t (k + 1) p = enF h t k p := by
      intro hle
      unfold enF
      refine congrArg (fun x => (h.1, h.2.1, x, h.2.2.2)) ?_
      funext x y z
      by_cases q2 : x = 16 ∧ y = t ∧ z < k ∧ h.2.1 17 t z ≤ p
      · rw [if_pos q2, if_pos ⟨q2.1, q2.2.1, by omega, q2.2.2.2⟩]
      · rw [if_neg q2, if_neg]
        rintro ⟨z1, z2, z3, z4⟩
        by_cases z5 : z = k
        · subst z5; exact hle z4
        · exact q2 ⟨z1, z2, by omega, z4⟩
    refine V_iload_n 3 dX1_endIn_2 rfl rfl ?_
    refine V_aload_n 4 dX1_endIn_3 rfl rfl ?_
    refine V_getiV 7 1 2 fl_X1_19 dX1_endIn_4 rfl rfl (by decide) rfl (by decide) e ?_
    refine V_icmp_ge 33 10 dX1_endIn_7 rfl rfl (fun c_7 => ?_) (fun c_7 => ?_)
    · skip
      exact absurd c_7 (nI_ge (by omega) (by omega))
    · skip
      refine V_aload_n 11 dX1_endIn_10 rfl rfl ?_
      refine V_getR 14 1 1 fl_X1_15 dX1_endIn_11 rfl rfl (by decide) (Or.inr ⟨_, rfl⟩) (by decide) (sh_1_1 hS (by omega)) ?_
      refine V_iload_n 15 dX1_endIn_14 rfl rfl ?_
      refine V_ialdV 16 (_) dX1_endIn_15 rfl rfl (by decide) rfl (show _ < 40 by omega) (by decide) (show _ = qg_i h 17 t k from rfl) ?_
      refine V_iload_n 17 dX1_endIn_16 rfl rfl ?_
      refine V_icmp_gt 27 20 dX1_endIn_17 rfl rfl (fun c_17 => ?_) (fun c_17 => ?_)
      · skip
        rw [e2 (by grind)] at ih
        refine V_iincN 30 dX1_endIn_27 rfl rfl (by decide) ?_
        refine V_goto 2 dX1_endIn_30 rfl ?_
        exact V_at ih ⟨rfl, rfl, rfl, trivial⟩
      · skip
        rw [e1 (by grind)] at ih
        refine V_aload_n 21 dX1_endIn_20 rfl rfl ?_
        refine V_getR 24 1 0 fl_X1_9 dX1_endIn_21 rfl rfl (by decide) (Or.inr ⟨_, rfl⟩) (by decide) (sh_1_0 hS (by omega)) ?_
        refine V_iload_n 25 dX1_endIn_24 rfl rfl ?_
        refine V_lconst (v := 0) 26 dX1_endIn_25 rfl (by decide) ?_
        refine V_lastN 27 (_) dX1_endIn_26 rfl rfl (by decide) rfl (show _ < 40 by omega) (by decide) ?_
        refine V_iincN 30 dX1_endIn_27 rfl rfl (by decide) ?_
        refine V_goto 2 dX1_endIn_30 rfl ?_
        exact V_at ih ⟨rfl, rfl, rfl, trivial⟩
theorem ct_X1_endIn {t nc : Nat} {p : Int32} (hS : SHC h NA NH NI) (ht : t < 6) (e : qg_i h 15 t 2 = nI nc) (hnc : nc ≤ 40) : qM yX1_endIn cX1_endIn 3 none 0 0 0 0 [.inr (.inr (some (15, t))), .inl p] h (pV fun h' => h' = enF h t nc p) := by
  have e0 : enF h t 0 p = h := by
    unfold enF
    refine Prod.ext rfl (Prod.ext rfl (Prod.ext ?_ rfl))
    funext x y z
    exact if_neg (fun q => absurd q.2.2.1 (Nat.not_lt_zero z))
  refine qM.of (plainFor_of_name (by decide)) (Nat.le_of_ble_eq_true rfl) ?_
  refine V_iconst (v := 0) 1 dX1_endIn_0 rfl (by decide) ?_
  refine V_istore_n 2 dX1_endIn_1 rfl (by decide) ?_
  refine V_heap e0.symm (V_at (lp_X1_endIn hS ht e hnc ⟨rfl, rfl⟩ nc 0 (by omega)) ⟨rfl, rfl, rfl, trivial⟩)
/-- an invoice's arrays -/
def IFs (h : qH) (i : Nat) : Prop := qg_r h 28 i 2 = some (29, i) ∧ qg_r h 28 i 3 = some (30, i) ∧ qg_r h 28 i 4 = some (31, i) ∧ qg_r h 28 i 5 = some (32, i)
/-- a line more -/
def f_line (h : qH) (i lc : Nat) (kd rs : Int32) (q m : Int64) : qH := qs_l (qs_i (qs_l (qs_l (qs_i (qs_i h 29 i lc kd) 30 i lc rs) 31 i lc q) 32 i lc m) 28 i 6 (nI (lc + 1))) 28 i 7 (qg_l h 28 i 7 + m)
theorem ct_X3_add {i lc : Nat} {kd rs : Int32} {q m : Int64} (hS : IFs h i) (e : qg_i h 28 i 6 = nI lc) (hlc : lc < 21) : qM yX3_add cX3_add 7 none 0 0 0 0 [.inr (.inr (some (28, i))), .inl kd, .inl rs, .inr (.inl q), .inr (.inl m)] h (pV fun h' => h' = f_line h i lc kd rs q m) := by
  refine qM.of (plainFor_of_name (by decide)) (Nat.le_of_ble_eq_true rfl) ?_
  refine V_aload_n 1 dX3_add_0 rfl rfl ?_
  refine V_getiV 4 3 6 fl_X3_32 dX3_add_1 rfl rfl (by decide) rfl (by decide) e ?_
  refine V_bipush (v := 21) 6 dX3_add_4 rfl (by decide) ?_
  refine V_icmp_lt 10 9 dX3_add_6 rfl rfl (fun c_6 => ?_) (fun c_6 => ?_)
  · skip
    refine V_aload_n 11 dX3_add_10 rfl rfl ?_
    refine V_getR 14 3 2 fl_X3_9 dX3_add_11 rfl rfl (by decide) (Or.inr ⟨_, rfl⟩) (by decide) hS.1 ?_
    refine V_aload_n 15 dX3_add_14 rfl rfl ?_
    refine V_getiV 18 3 6 fl_X3_32 dX3_add_15 rfl rfl (by decide) rfl (by decide) e ?_
    refine V_iload_n 19 dX3_add_18 rfl rfl ?_
    refine V_iastN 20 (_) dX3_add_19 rfl rfl (by decide) rfl (show _ < 21 by omega) (by decide) ?_
    refine V_aload_n 21 dX3_add_20 rfl rfl ?_
    refine V_getR 24 3 3 fl_X3_15 dX3_add_21 rfl rfl (by decide) (Or.inr ⟨_, rfl⟩) (by decide) hS.2.1 ?_
    refine V_aload_n 25 dX3_add_24 rfl rfl ?_
    refine V_getiV 28 3 6 fl_X3_32 dX3_add_25 rfl rfl (by decide) rfl (by decide) e ?_
    refine V_iload_n 29 dX3_add_28 rfl rfl ?_
    refine V_iastN 30 (_) dX3_add_29 rfl rfl (by decide) rfl (show _ < 21 by omega) (by decide) ?_
    refine V_aload_n 31 dX3_add_30 rfl rfl ?_
    refine V_getR 34 3 4 fl_X3_18 dX3_add_31 rfl rfl (by decide) (Or.inr ⟨_, rfl⟩) (by decide) hS.2.2.1 ?_
    refine V_aload_n 35 dX3_add_34 rfl rfl ?_
    refine V_getiV 38 3 6 fl_X3_32 dX3_add_35 rfl rfl (by decide) rfl (by decide) e ?_
    refine V_lload_n 39 dX3_add_38 rfl rfl ?_
    refine V_lastN 40 (_) dX3_add_39 rfl rfl (by decide) rfl (show _ < 21 by omega) (by decide) ?_
    refine V_aload_n 41 dX3_add_40 rfl rfl ?_
    refine V_getR 44 3 5 fl_X3_22 dX3_add_41 rfl rfl (by decide) (Or.inr ⟨_, rfl⟩) (by decide) hS.2.2.2 ?_
    refine V_aload_n 45 dX3_add_44 rfl rfl ?_
    refine V_getiV 48 3 6 fl_X3_32 dX3_add_45 rfl rfl (by decide) rfl (by decide) e ?_
    refine V_lload 50 dX3_add_48 rfl rfl ?_
    refine V_lastN 51 (_) dX3_add_50 rfl rfl (by decide) rfl (show _ < 21 by omega) (by decide) ?_
    refine V_aload_n 52 dX3_add_51 rfl rfl ?_
    refine V_dup 53 dX3_add_52 rfl ?_
    refine V_getiV 56 3 6 fl_X3_32 dX3_add_53 rfl rfl (by decide) rfl (by decide) e ?_
    refine V_iconst (v := 1) 57 dX3_add_56 rfl (by decide) ?_
    refine V_iadd 58 dX3_add_57 rfl ?_
    rw [nI_1]
    refine V_puti 61 3 6 fl_X3_32 dX3_add_58 rfl rfl (by decide) rfl (by decide) (Or.inl rfl) ?_
    refine V_aload_n 62 dX3_add_61 rfl rfl ?_
    refine V_dup 63 dX3_add_62 rfl ?_
    refine V_getl 66 3 7 fl_X3_35 dX3_add_63 rfl rfl (by decide) rfl (by decide) ?_
    refine V_lload 68 dX3_add_66 rfl rfl ?_
    refine V_ladd 69 dX3_add_68 rfl ?_
    refine V_putl 72 3 7 fl_X3_35 dX3_add_69 rfl rfl (by decide) rfl (by decide) (Or.inl rfl) ?_
    refine V_vret dX3_add_72 rfl ⟨rfl, ?_⟩ (by first | exact Nat.le_refl _ | decide | omega) (by first | exact Nat.le_refl _ | decide | omega)
    rfl
  · skip
    exact absurd (nI_lt (b := 21) hlc (by omega)) c_6
def f_add (h : qH) (i lc : Nat) (kd : Int32) (m : Int64) : qH := if m = 0 then h else f_line h i lc kd (-1) 0 m
theorem ct_X3_addSome {i lc : Nat} {kd : Int32} {m : Int64} (hS : IFs h i) (e : qg_i h 28 i 6 = nI lc) (hlc : lc < 21) : qM yX3_addSome cX3_addSome 4 none 1 26 0 0 [.inr (.inr (some (28, i))), .inl kd, .inr (.inl m)] h (pV fun h' => h' = f_add h i lc kd m) := by
  refine qM.of (plainFor_of_name (by decide)) (Nat.le_of_ble_eq_true rfl) ?_
  refine V_lload_n 1 dX3_addSome_0 rfl rfl ?_
  refine V_lconst (v := 0) 2 dX3_addSome_1 rfl (by decide) ?_
  refine V_lcmp 3 dX3_addSome_2 rfl ?_
  refine V_if_eq 14 6 dX3_addSome_3 rfl rfl (fun c_3 => ?_) (fun c_3 => ?_)
  · (rw [lg_eq] at c_3)
    refine V_vret dX3_addSome_14 rfl ⟨rfl, ?_⟩ (by first | exact Nat.le_refl _ | decide | omega) (by first | exact Nat.le_refl _ | decide | omega)
    unfold f_add
    first | rw [if_pos c_3] | rw [if_neg c_3]
  · (rw [lg_eq] at c_3)
    refine V_aload_n 7 dX3_addSome_6 rfl rfl ?_
    refine V_iload_n 8 dX3_addSome_7 rfl rfl ?_
    refine V_iconst (v := (-1)) 9 dX3_addSome_8 rfl (by decide) ?_
    refine V_lconst (v := 0) 10 dX3_addSome_9 rfl (by decide) ?_
    refine V_lload_n 11 dX3_addSome_10 rfl rfl ?_
    refine V_cV4v 14 (ct_X3_add hS e hlc) cs_X3_39 rfl rfl (by decide) dX3_addSome_11 rfl ⟨Nat.le_of_ble_eq_true rfl, Nat.le_of_ble_eq_true rfl⟩ (Nat.le_of_ble_eq_true rfl) ⟨Nat.le_of_ble_eq_true rfl, Nat.le_of_ble_eq_true rfl⟩ (fun h' hx hle => ?_)
    obtain rfl := hx
    refine V_vret dX3_addSome_14 rfl ⟨rfl, ?_⟩ (by first | exact Nat.le_refl _ | decide | omega) (by first | exact Nat.le_refl _ | decide | omega)
    unfold f_add
    first | rw [if_pos c_3] | rw [if_neg c_3]
theorem f_line_fr {i lc : Nat} {kd rs : Int32} {q m : Int64} : (qg_n (f_line h i lc kd rs q m) = qg_n h ∧ qg_r (f_line h i lc kd rs q m) = qg_r h) ∧ qg_i (f_line h i lc kd rs q m) 28 i 6 = nI (lc + 1) ∧ qg_l (f_line h i lc kd rs q m) 28 i 7 = qg_l h 28 i 7 + m ∧ (∀ a b k, a ≠ 28 → a ≠ 29 → a ≠ 30 → qg_i (f_line h i lc kd rs q m) a b k = qg_i h a b k) ∧ (∀ a b k, a ≠ 28 → a ≠ 31 → a ≠ 32 → qg_l (f_line h i lc kd rs q m) a b k = qg_l h a b k) := by
  refine ⟨⟨rfl, rfl⟩, by simp [f_line, qii, qil], by simp [f_line, qll, qli], fun a b k h1 h2 h3 => ?_, fun a b k h1 h2 h3 => ?_⟩
  · simp [f_line, qii, qil, h1, h2, h3]
  · simp [f_line, qll, qli, h1, h2, h3]
def fu1 (g : qH) (t i lc b : Nat) : qH := f_line (qs_l g 16 t b (f_cf g t b - m_min (f_cf g t b) (qg_l g 28 i 7))) i lc 5 (-1) 0 (-(m_min (f_cf g t b) (qg_l g 28 i 7)))
def f_ucr (t nc i : Nat) : Nat → qH → Nat → qH
  | 0, g, _ => g
  | f + 1, g, lc => if 0 < qg_l g 28 i 7 then (match bst (f_cl g t) (f_cf g t) (-2147483648) nc with
    | none => g
    | some b => f_ucr t nc i f (fu1 g t i lc b) (lc + 1)) else g
theorem lp_X1_pay {t nc i : Nat} (ht : t < 6) (hnc : nc ≤ 40) {n0 : Nat → Nat} {Post : Option qV → qH → Prop} :
    ∀ (f k : Nat), k + f = 10 → ∀ (g : qH) (lc : Nat), SHC g NA NH NI → IFs g i → qg_i g 15 t 2 = nI nc → qg_i g 28 i 6 = nI lc → lc + f ≤ 21 → Post none (f_ucr t nc i f g lc) →
      Vw yX1_payFor cX1_payFor 6 none (qrm 2 49 0 0) 0 0 n0 Post 2 [(0, .inr (.inr (some (15, t)))), (1, .inr (.inr (some (28, i)))), (2, .inl (nI k))] [] g 0 0 := by
  intro f
  induction f with
  | zero =>
    intro k hk g lc hS hI e el hl hP
    have hk : k = 10 := by omega
    subst hk
    refine V_iload_n 3 dX1_payFor_2 rfl rfl ?_
    refine V_bipush (v := 10) 5 dX1_payFor_3 rfl (by decide) ?_
    refine V_icmp_ge 68 8 dX1_payFor_5 rfl rfl (fun c_5 => ?_) (fun c_5 => ?_)
    · skip
      refine V_vret dX1_payFor_68 rfl ?_ (by first | exact Nat.le_refl _ | decide | omega) (by first | exact Nat.le_refl _ | decide | omega)
      exact hP
    · skip
      exact absurd (by decide) c_5
  | succ f ih =>
    intro k hk g lc hS hI e el hl hP
    by_cases hs : 0 < qg_l g 28 i 7
    · rw [f_ucr, if_pos hs] at hP
      cases hb : bst (f_cl g t) (f_cf g t) (-2147483648) nc with
      | none =>
        rw [hb] at hP
        dsimp only at hP
        refine V_iload_n 3 dX1_payFor_2 rfl rfl ?_
        refine V_bipush (v := 10) 5 dX1_payFor_3 rfl (by decide) ?_
        refine V_icmp_ge 68 8 dX1_payFor_5 rfl rfl (fun c_5 => ?_) (fun c_5 => ?_)
        · skip
          exact absurd c_5 (nI_ge (b := 10) (by omega) (by omega))
        · skip
          refine V_aload_n 9 dX1_payFor_8 rfl rfl ?_
          refine V_getl 12 3 7 fl_X1_27 dX1_payFor_9 rfl rfl (by decide) rfl (by decide) ?_
          refine V_lconst (v := 0) 13 dX1_payFor_12 rfl (by decide) ?_
          refine V_lcmp 14 dX1_payFor_13 rfl ?_
          refine V_if_le 68 17 dX1_payFor_14 rfl rfl (fun c_14 => ?_) (fun c_14 => ?_)
          · (rw [lg_le] at c_14)
            grind
          · (rw [lg_le] at c_14)
            refine V_aload_n 18 dX1_payFor_17 rfl rfl ?_
            refine V_cV0i 21 (ct_X1_nextToUse hS ht e hnc) cs_X1_33 rfl rfl (by decide) dX1_payFor_18 rfl ⟨Nat.le_of_ble_eq_true rfl, Nat.le_of_ble_eq_true rfl⟩ (Nat.le_of_ble_eq_true rfl) ⟨Nat.le_of_ble_eq_true rfl, Nat.le_of_ble_eq_true rfl⟩ (fun x h' hx hle => ?_)
            obtain ⟨rfl, rfl⟩ := hx
            rw [hb]
            refine V_istore_n 22 dX1_payFor_21 rfl (by decide) ?_
            refine V_iload_n 23 dX1_payFor_22 rfl rfl ?_
            refine V_iconst (v := (-1)) 24 dX1_payFor_23 rfl (by decide) ?_
            refine V_icmp_ne 28 27 dX1_payFor_24 rfl rfl (fun c_24 => ?_) (fun c_24 => ?_)
            · skip
              exact absurd rfl c_24
            · skip
              refine V_vret dX1_payFor_27 rfl ?_ (by first | exact Nat.le_refl _ | decide | omega) (by first | exact Nat.le_refl _ | decide | omega)
              exact hP
      | some b =>
        obtain ⟨b1, b2, b3⟩ := bst_some hb
        have hu : ¬ -(m_min (f_cf g t b) (qg_l g 28 i 7)) = 0 := by
          unfold m_min
          split <;> grind
        rw [hb] at hP
        dsimp only at hP
        refine V_iload_n 3 dX1_payFor_2 rfl rfl ?_
        refine V_bipush (v := 10) 5 dX1_payFor_3 rfl (by decide) ?_
        refine V_icmp_ge 68 8 dX1_payFor_5 rfl rfl (fun c_5 => ?_) (fun c_5 => ?_)
        · skip
          exact absurd c_5 (nI_ge (b := 10) (by omega) (by omega))
        · skip
          refine V_aload_n 9 dX1_payFor_8 rfl rfl ?_
          refine V_getl 12 3 7 fl_X1_27 dX1_payFor_9 rfl rfl (by decide) rfl (by decide) ?_
          refine V_lconst (v := 0) 13 dX1_payFor_12 rfl (by decide) ?_
          refine V_lcmp 14 dX1_payFor_13 rfl ?_
          refine V_if_le 68 17 dX1_payFor_14 rfl rfl (fun c_14 => ?_) (fun c_14 => ?_)
          · (rw [lg_le] at c_14)
            grind
          · (rw [lg_le] at c_14)
            refine V_aload_n 18 dX1_payFor_17 rfl rfl ?_
            refine V_cV0i 21 (ct_X1_nextToUse hS ht e hnc) cs_X1_33 rfl rfl (by decide) dX1_payFor_18 rfl ⟨Nat.le_of_ble_eq_true rfl, Nat.le_of_ble_eq_true rfl⟩ (Nat.le_of_ble_eq_true rfl) ⟨Nat.le_of_ble_eq_true rfl, Nat.le_of_ble_eq_true rfl⟩ (fun x h' hx hle => ?_)
            obtain ⟨rfl, rfl⟩ := hx
            rw [hb]
            refine V_istore_n 22 dX1_payFor_21 rfl (by decide) ?_
            refine V_iload_n 23 dX1_payFor_22 rfl rfl ?_
            refine V_iconst (v := (-1)) 24 dX1_payFor_23 rfl (by decide) ?_
            refine V_icmp_ne 28 27 dX1_payFor_24 rfl rfl (fun c_24 => ?_) (fun c_24 => ?_)
            · skip
              refine V_aload_n 29 dX1_payFor_28 rfl rfl ?_
              refine V_getR 32 1 0 fl_X1_9 dX1_payFor_29 rfl rfl (by decide) (Or.inr ⟨_, rfl⟩) (by decide) (sh_1_0 hS (by omega)) ?_
              refine V_iload_n 33 dX1_payFor_32 rfl rfl ?_
              refine V_laldN 34 (b) dX1_payFor_33 rfl rfl (by decide) rfl (show _ < 40 by omega) (by decide) ?_
              refine V_aload_n 35 dX1_payFor_34 rfl rfl ?_
              refine V_getl 38 3 7 fl_X1_27 dX1_payFor_35 rfl rfl (by decide) rfl (by decide) ?_
              refine V_cS2l 41 (ct_J9_min_f86c9 _ _ _) cs_X1_36 dX1_payFor_38 rfl ⟨Nat.le_of_ble_eq_true rfl, Nat.le_of_ble_eq_true rfl⟩ (Nat.le_of_ble_eq_true rfl) ⟨Nat.le_of_ble_eq_true rfl, Nat.le_of_ble_eq_true rfl⟩ (fun x h' hx hle => ?_)
              obtain ⟨rfl, rfl⟩ := hx
              refine V_lstore 43 dX1_payFor_41 rfl (by decide) ?_
              refine V_aload_n 44 dX1_payFor_43 rfl rfl ?_
              refine V_getR 47 1 0 fl_X1_9 dX1_payFor_44 rfl rfl (by decide) (Or.inr ⟨_, rfl⟩) (by decide) (sh_1_0 hS (by omega)) ?_
              refine V_iload_n 48 dX1_payFor_47 rfl rfl ?_
              refine V_dup2 49 dX1_payFor_48 rfl ?_
              refine V_laldN 50 (b) dX1_payFor_49 rfl rfl (by decide) rfl (show _ < 40 by omega) (by decide) ?_
              refine V_lload 52 dX1_payFor_50 rfl rfl ?_
              refine V_lsub 53 dX1_payFor_52 rfl ?_
              refine V_lastN 54 (b) dX1_payFor_53 rfl rfl (by decide) rfl (show _ < 40 by omega) (by decide) ?_
              refine V_aload_n 55 dX1_payFor_54 rfl rfl ?_
              refine V_iconst (v := 5) 56 dX1_payFor_55 rfl (by decide) ?_
              refine V_lload 58 dX1_payFor_56 rfl rfl ?_
              refine V_lneg 59 dX1_payFor_58 rfl ?_
              refine V_cV2v 62 (ct_X3_addSome (lc := lc) hI el (by omega)) cs_X1_42 rfl rfl (by decide) dX1_payFor_59 rfl ⟨Nat.le_of_ble_eq_true rfl, Nat.le_of_ble_eq_true rfl⟩ (Nat.le_of_ble_eq_true rfl) ⟨Nat.le_of_ble_eq_true rfl, Nat.le_of_ble_eq_true rfl⟩ (fun h' hx hle => ?_)
              obtain rfl := hx
              refine V_heap (show _ = fu1 _ t i lc b from if_neg hu) ?_
              refine V_iincN 65 dX1_payFor_62 rfl rfl (by decide) ?_
              refine V_goto 2 dX1_payFor_65 rfl ?_
              refine V_at (ih (k + 1) (by omega) _ (lc + 1) hS hI ?_ ?_ (by omega) hP) ⟨rfl, rfl, rfl, trivial⟩
              · rw [← e]
                exact (f_line_fr).2.2.2.1 15 t 2 (by decide) (by decide) (by decide)
              · exact (f_line_fr).2.1
            · skip
              exact absurd c_24 (nI_ne_m1 (by omega))
    · rw [f_ucr, if_neg hs] at hP
      refine V_iload_n 3 dX1_payFor_2 rfl rfl ?_
      refine V_bipush (v := 10) 5 dX1_payFor_3 rfl (by decide) ?_
      refine V_icmp_ge 68 8 dX1_payFor_5 rfl rfl (fun c_5 => ?_) (fun c_5 => ?_)
      · skip
        exact absurd c_5 (nI_ge (b := 10) (by omega) (by omega))
      · skip
        refine V_aload_n 9 dX1_payFor_8 rfl rfl ?_
        refine V_getl 12 3 7 fl_X1_27 dX1_payFor_9 rfl rfl (by decide) rfl (by decide) ?_
        refine V_lconst (v := 0) 13 dX1_payFor_12 rfl (by decide) ?_
        refine V_lcmp 14 dX1_payFor_13 rfl ?_
        refine V_if_le 68 17 dX1_payFor_14 rfl rfl (fun c_14 => ?_) (fun c_14 => ?_)
        · (rw [lg_le] at c_14)
          refine V_vret dX1_payFor_68 rfl ?_ (by first | exact Nat.le_refl _ | decide | omega) (by first | exact Nat.le_refl _ | decide | omega)
          exact hP
        · (rw [lg_le] at c_14)
          grind
theorem ct_X1_payFor {t nc i lc : Nat} (hS : SHC h NA NH NI) (ht : t < 6) (hnc : nc ≤ 40) (hI : IFs h i) (e : qg_i h 15 t 2 = nI nc) (el : qg_i h 28 i 6 = nI lc) (hlc : lc ≤ 11) : qM yX1_payFor cX1_payFor 6 none 2 49 0 0 [.inr (.inr (some (15, t))), .inr (.inr (some (28, i)))] h (pV fun h' => h' = f_ucr t nc i 10 h lc) := by
  refine qM.of (plainFor_of_name (by decide)) (Nat.le_of_ble_eq_true rfl) ?_
  refine V_iconst (v := 0) 1 dX1_payFor_0 rfl (by decide) ?_
  refine V_istore_n 2 dX1_payFor_1 rfl (by decide) ?_
  exact V_at (lp_X1_pay ht hnc 10 0 (by omega) h lc hS hI e el (by omega) ⟨rfl, rfl⟩) ⟨rfl, rfl, rfl, trivial⟩
/-- tenants -/
def f_adj (h : qH) (t r k : Nat) (q u : Int64) : qH := qs_l (qs_l h 13 t r (qg_l h 13 t r + u)) 14 t r (qg_l h 14 t r + (f_cost h (8 * t + 2 * r + 1) k (q + u) - f_cost h (8 * t + 2 * r + 1) k q))
theorem ct_X6_adjust {t r k : Nat} {q : Int64} {u : Int32} (hS : SHC h NA NH NI) (ht : t < 6) (hr : r < 4) (hk : k < 5) (hz : 1 ≤ qg_i h 18 (8 * t + 2 * r + 1) 5) (e : qg_i h 18 (8 * t + 2 * r + 1) 3 = nI (k + 1)) : qM yX6_adjust cX6_adjust 6 none 3 74 0 0 [.inr (.inr (some (10, t))), .inl (nI r), .inr (.inl q), .inl u] h (pV fun h' => h' = f_adj h t r k q u.toInt64) := by
  refine qM.of (plainFor_of_name (by decide)) (Nat.le_of_ble_eq_true rfl) ?_
  refine V_aload_n 1 dX6_adjust_0 rfl rfl ?_
  refine V_getR 4 6 2 fl_X6_17 dX6_adjust_1 rfl rfl (by decide) (Or.inr ⟨_, rfl⟩) (by decide) (sh_6_2 hS (by omega)) ?_
  refine V_iload_n 5 dX6_adjust_4 rfl rfl ?_
  refine V_aaldR 6 (_) dX6_adjust_5 rfl rfl (Or.inl ⟨_, rfl⟩) (by decide) rfl (show _ < 4 by omega) (by decide) (sa_12 hS (by omega) (by omega)) ?_
  refine V_astore 8 dX6_adjust_6 rfl (by decide) ?_
  refine V_aload_n 9 dX6_adjust_8 rfl rfl ?_
  refine V_getR 12 6 3 fl_X6_20 dX6_adjust_9 rfl rfl (by decide) (Or.inr ⟨_, rfl⟩) (by decide) (sh_6_3 hS (by omega)) ?_
  refine V_iload_n 13 dX6_adjust_12 rfl rfl ?_
  refine V_dup2 14 dX6_adjust_13 rfl ?_
  refine V_laldN 15 (_) dX6_adjust_14 rfl rfl (by decide) rfl (show _ < 4 by omega) (by decide) ?_
  refine V_iload 17 dX6_adjust_15 rfl rfl ?_
  refine V_i2l 18 dX6_adjust_17 rfl ?_
  refine V_ladd 19 dX6_adjust_18 rfl ?_
  refine V_lastN 20 (_) dX6_adjust_19 rfl rfl (by decide) rfl (show _ < 4 by omega) (by decide) ?_
  refine V_aload_n 21 dX6_adjust_20 rfl rfl ?_
  refine V_getR 24 6 4 fl_X6_24 dX6_adjust_21 rfl rfl (by decide) (Or.inr ⟨_, rfl⟩) (by decide) (sh_6_4 hS (by omega)) ?_
  refine V_iload_n 25 dX6_adjust_24 rfl rfl ?_
  refine V_dup2 26 dX6_adjust_25 rfl ?_
  refine V_laldN 27 (_) dX6_adjust_26 rfl rfl (by decide) rfl (show _ < 4 by omega) (by decide) ?_
  refine V_aload 29 dX6_adjust_27 rfl rfl ?_
  refine V_lload_n 30 dX6_adjust_29 rfl rfl ?_
  refine V_iload 32 dX6_adjust_30 rfl rfl ?_
  refine V_i2l 33 dX6_adjust_32 rfl ?_
  refine V_ladd 34 dX6_adjust_33 rfl ?_
  refine V_cV1l 37 (ct_X5_costOf hS (by omega) hk hz e) cs_X6_39 rfl rfl (by decide) dX6_adjust_34 rfl ⟨Nat.le_of_ble_eq_true rfl, Nat.le_of_ble_eq_true rfl⟩ (Nat.le_of_ble_eq_true rfl) ⟨Nat.le_of_ble_eq_true rfl, Nat.le_of_ble_eq_true rfl⟩ (fun x h' hx hle => ?_)
  obtain ⟨rfl, rfl⟩ := hx
  refine V_aload 39 dX6_adjust_37 rfl rfl ?_
  refine V_lload_n 40 dX6_adjust_39 rfl rfl ?_
  refine V_cV1l 43 (ct_X5_costOf hS (by omega) hk hz e) cs_X6_39 rfl rfl (by decide) dX6_adjust_40 rfl ⟨Nat.le_of_ble_eq_true rfl, Nat.le_of_ble_eq_true rfl⟩ (Nat.le_of_ble_eq_true rfl) ⟨Nat.le_of_ble_eq_true rfl, Nat.le_of_ble_eq_true rfl⟩ (fun x h' hx hle => ?_)
  obtain ⟨rfl, rfl⟩ := hx
  refine V_lsub 44 dX6_adjust_43 rfl ?_
  refine V_ladd 45 dX6_adjust_44 rfl ?_
  refine V_lastN 46 (_) dX6_adjust_45 rfl rfl (by decide) rfl (show _ < 4 by omega) (by decide) ?_
  refine V_vret dX6_adjust_46 rfl ⟨rfl, ?_⟩ (by first | exact Nat.le_refl _ | decide | omega) (by first | exact Nat.le_refl _ | decide | omega)
  rfl
def f_b2 (h : qH) (t i : Nat) (g0 : qH × Nat) : Nat → qH × Nat
  | 0 => g0
  | r + 1 => if 0 < qg_l h 13 t r then (f_line (f_b2 h t i g0 r).1 i (f_b2 h t i g0 r).2 1 (nI r) (qg_l h 13 t r) (qg_l h 14 t r), (f_b2 h t i g0 r).2 + 1) else f_b2 h t i g0 r
/-- behind lines: all else as before -/
def LFs (h : qH) (i lm : Nat) (g : qH × Nat) : Prop := (qg_n g.1 = qg_n h ∧ qg_r g.1 = qg_r h) ∧ qg_i g.1 28 i 6 = nI g.2 ∧ g.2 ≤ lm ∧ (∀ a b k, a ≠ 28 → a ≠ 29 → a ≠ 30 → qg_i g.1 a b k = qg_i h a b k) ∧ (∀ a b k, a ≠ 28 → a ≠ 31 → a ≠ 32 → qg_l g.1 a b k = qg_l h a b k)
theorem LFs.line {i lm : Nat} {g : qH × Nat} (C : LFs h i lm g) (kd rs : Int32) (q m : Int64) : LFs h i (lm + 1) (f_line g.1 i g.2 kd rs q m, g.2 + 1) := by
  obtain ⟨c1, c2, c3, c4, c5⟩ := C
  obtain ⟨l1, l2, l3, l4, l5⟩ := f_line_fr (h := g.1) (i := i) (lc := g.2) (kd := kd) (rs := rs) (q := q) (m := m)
  exact ⟨⟨l1.1.trans c1.1, l1.2.trans c1.2⟩, l2, by simp; omega, fun a b k h1 h2 h3 => (l4 a b k h1 h2 h3).trans (c4 a b k h1 h2 h3), fun a b k h1 h2 h3 => (l5 a b k h1 h2 h3).trans (c5 a b k h1 h2 h3)⟩
theorem LFs.up {i lm lm' : Nat} {g : qH × Nat} (C : LFs h i lm g) (hl : lm ≤ lm') : LFs h i lm' g := ⟨C.1, C.2.1, by have := C.2.2.1; omega, C.2.2.2⟩
theorem LFs.shc {i lm : Nat} {g : qH × Nat} (C : LFs h i lm g) (hS : SHC h NA NH NI) : SHC g.1 NA NH NI := by unfold SHC; rw [C.1.2]; exact hS
theorem LFs.ifs {i lm : Nat} {g : qH × Nat} (C : LFs h i lm g) (hI : IFs h i) : IFs g.1 i := by unfold IFs; rw [C.1.2]; exact hI
theorem b2_fr {t i lm : Nat} {g0 : qH × Nat} (C : LFs h i lm g0) : ∀ r, LFs h i (lm + r) (f_b2 h t i g0 r)
  | 0 => C
  | r + 1 => by
    have c := b2_fr (t := t) C r
    unfold f_b2
    split
    · exact c.line _ _ _ _
    · exact c.up (by omega)
theorem lp_X6_bill {t i lm : Nat} {g0 : qH × Nat} (hS : SHC h NA NH NI) (hI : IFs h i) (ht : t < 6) (C : LFs h i lm g0) (hlm : lm ≤ 10) {n0 : Nat → Nat} {Post : Option qV → qH → Prop} (hP : Post none (f_b2 h t i g0 4).1) :
    ∀ (m r : Nat), r + m = 4 → Vw yX6_billAdjustments cX6_billAdjustments 3 none (qrm 1 26 0 0) 0 0 n0 Post 2 [(0, .inr (.inr (some (10, t)))), (1, .inr (.inr (some (28, i)))), (2, .inl (nI r))] [] (f_b2 h t i g0 r).1 0 0 := by
  intro m
  induction m with
  | zero =>
    intro r hr
    have hr : r = 4 := by omega
    subst hr
    refine V_iload_n 3 dX6_billAdjustments_2 rfl rfl ?_
    refine V_iconst (v := 4) 4 dX6_billAdjustments_3 rfl (by decide) ?_
    refine V_icmp_ge 42 7 dX6_billAdjustments_4 rfl rfl (fun c_4 => ?_) (fun c_4 => ?_)
    · skip
      refine V_vret dX6_billAdjustments_42 rfl ?_ (by first | exact Nat.le_refl _ | decide | omega) (by first | exact Nat.le_refl _ | decide | omega)
      exact hP
    · skip
      exact absurd (by decide) c_4
  | succ m ih =>
    intro r hr
    have c := b2_fr (t := t) C r
    have ih := ih (r + 1) (by omega)
    have hl := c.2.2.1
    unfold f_b2 at ih
    have hSg := c.shc hS
    have w1 : qg_l (f_b2 h t i g0 r).1 13 t r = qg_l h 13 t r := c.2.2.2.2 13 t r (by decide) (by decide) (by decide)
    have w2 : qg_l (f_b2 h t i g0 r).1 14 t r = qg_l h 14 t r := c.2.2.2.2 14 t r (by decide) (by decide) (by decide)
    refine V_iload_n 3 dX6_billAdjustments_2 rfl rfl ?_
    refine V_iconst (v := 4) 4 dX6_billAdjustments_3 rfl (by decide) ?_
    refine V_icmp_ge 42 7 dX6_billAdjustments_4 rfl rfl (fun c_4 => ?_) (fun c_4 => ?_)
    · skip
      exact absurd c_4 (nI_ge (b := 4) (by omega) (by omega))
    · skip
      refine V_aload_n 8 dX6_billAdjustments_7 rfl rfl ?_
      refine V_getR 11 6 3 fl_X6_20 dX6_billAdjustments_8 rfl rfl (by decide) (Or.inr ⟨_, rfl⟩) (by decide) (sh_6_3 hSg (by omega)) ?_
      refine V_iload_n 12 dX6_billAdjustments_11 rfl rfl ?_
      refine V_laldV 13 (_) dX6_billAdjustments_12 rfl rfl (by decide) rfl (show _ < 4 by omega) (by decide) w1 ?_
      refine V_lconst (v := 0) 14 dX6_billAdjustments_13 rfl (by decide) ?_
      refine V_lcmp 15 dX6_billAdjustments_14 rfl ?_
      refine V_if_le 36 18 dX6_billAdjustments_15 rfl rfl (fun c_15 => ?_) (fun c_15 => ?_)
      · (rw [lg_le] at c_15)
        rw [if_neg (by grind)] at ih
        refine V_iincN 39 dX6_billAdjustments_36 rfl rfl (by decide) ?_
        refine V_goto 2 dX6_billAdjustments_39 rfl ?_
        exact V_at ih ⟨rfl, rfl, rfl, trivial⟩
      · (rw [lg_le] at c_15)
        rw [if_pos (by grind)] at ih
        refine V_aload_n 19 dX6_billAdjustments_18 rfl rfl ?_
        refine V_iconst (v := 1) 20 dX6_billAdjustments_19 rfl (by decide) ?_
        refine V_iload_n 21 dX6_billAdjustments_20 rfl rfl ?_
        refine V_aload_n 22 dX6_billAdjustments_21 rfl rfl ?_
        refine V_getR 25 6 3 fl_X6_20 dX6_billAdjustments_22 rfl rfl (by decide) (Or.inr ⟨_, rfl⟩) (by decide) (sh_6_3 hSg (by omega)) ?_
        refine V_iload_n 26 dX6_billAdjustments_25 rfl rfl ?_
        refine V_laldV 27 (_) dX6_billAdjustments_26 rfl rfl (by decide) rfl (show _ < 4 by omega) (by decide) w1 ?_
        refine V_aload_n 28 dX6_billAdjustments_27 rfl rfl ?_
        refine V_getR 31 6 4 fl_X6_24 dX6_billAdjustments_28 rfl rfl (by decide) (Or.inr ⟨_, rfl⟩) (by decide) (sh_6_4 hSg (by omega)) ?_
        refine V_iload_n 32 dX6_billAdjustments_31 rfl rfl ?_
        refine V_laldV 33 (_) dX6_billAdjustments_32 rfl rfl (by decide) rfl (show _ < 4 by omega) (by decide) w2 ?_
        refine V_cV4v 36 (ct_X3_add (c.ifs hI) c.2.1 (by omega)) cs_X6_43 rfl rfl (by decide) dX6_billAdjustments_33 rfl ⟨Nat.le_of_ble_eq_true rfl, Nat.le_of_ble_eq_true rfl⟩ (Nat.le_of_ble_eq_true rfl) ⟨Nat.le_of_ble_eq_true rfl, Nat.le_of_ble_eq_true rfl⟩ (fun h' hx hle => ?_)
        obtain rfl := hx
        refine V_iincN 39 dX6_billAdjustments_36 rfl rfl (by decide) ?_
        refine V_goto 2 dX6_billAdjustments_39 rfl ?_
        exact V_at ih ⟨rfl, rfl, rfl, trivial⟩
theorem ct_X6_billAdjustments {t i lc : Nat} (hS : SHC h NA NH NI) (hI : IFs h i) (ht : t < 6) (el : qg_i h 28 i 6 = nI lc) (hlc : lc ≤ 10) : qM yX6_billAdjustments cX6_billAdjustments 3 none 1 26 0 0 [.inr (.inr (some (10, t))), .inr (.inr (some (28, i)))] h (pV fun h' => h' = (f_b2 h t i (h, lc) 4).1) := by
  refine qM.of (plainFor_of_name (by decide)) (Nat.le_of_ble_eq_true rfl) ?_
  refine V_iconst (v := 0) 1 dX6_billAdjustments_0 rfl (by decide) ?_
  refine V_istore_n 2 dX6_billAdjustments_1 rfl (by decide) ?_
  exact V_at (lp_X6_bill (g0 := (h, lc)) hS hI ht ⟨⟨rfl, rfl⟩, el, Nat.le_refl _, fun _ _ _ _ _ _ => rfl, fun _ _ _ _ _ _ => rfl⟩ hlc ⟨rfl, rfl⟩ 4 0 (by omega)) ⟨rfl, rfl, rfl, trivial⟩
def f_e1 (h : qH) (t : Nat) : Nat → qH
  | 0 => h
  | r + 1 => f_copy (qs_l (qs_l (f_e1 h t r) 13 t r 0) 14 t r 0) (8 * t + 2 * r + 1) (8 * t + 2 * r)
def f_end (h : qH) (t nc p : Nat) : qH := qs_i (enF (f_e1 h t 4) t nc (nI p)) 10 t 6 (nI (p + 1))
theorem cp5_fr2 {p q : Nat} : ∀ k, (∀ a b j, a ≠ 20 → a ≠ 21 → qg_i (cp5 h p q k) a b j = qg_i h a b j) ∧ (∀ a b j, a ≠ 19 → qg_l (cp5 h p q k) a b j = qg_l h a b j) ∧ qg_n (cp5 h p q k) = qg_n h ∧ qg_r (cp5 h p q k) = qg_r h
  | 0 => ⟨fun _ _ _ _ _ => rfl, fun _ _ _ _ => rfl, rfl, rfl⟩
  | k + 1 => by
    obtain ⟨a1, a2, a3, a4⟩ := cp5_fr2 (p := p) (q := q) k
    refine ⟨fun a b j h1 h2 => ?_, fun a b j h1 => ?_, a3, a4⟩
    · rw [← a1 a b j h1 h2]
      simp [cp5, qii, qil, h1, h2]
    · rw [← a2 a b j h1]
      simp [cp5, qll, qli, h1]
theorem e1_fr {t : Nat} : ∀ r, (∀ a b j, a ≠ 18 → a ≠ 20 → a ≠ 21 → qg_i (f_e1 h t r) a b j = qg_i h a b j) ∧ (∀ a b j, a ≠ 13 → a ≠ 14 → a ≠ 19 → qg_l (f_e1 h t r) a b j = qg_l h a b j) ∧ qg_n (f_e1 h t r) = qg_n h ∧ qg_r (f_e1 h t r) = qg_r h
  | 0 => ⟨fun _ _ _ _ _ _ => rfl, fun _ _ _ _ _ _ => rfl, rfl, rfl⟩
  | r + 1 => by
    obtain ⟨a1, a2, a3, a4⟩ := e1_fr (t := t) r
    obtain ⟨b1, b2, b3, b4⟩ := cp5_fr2 (h := qs_l (qs_l (f_e1 h t r) 13 t r 0) 14 t r 0) (p := 8 * t + 2 * r + 1) (q := 8 * t + 2 * r) 5
    refine ⟨fun a b j h1 h2 h3 => ?_, fun a b j h1 h2 h3 => ?_, b3.trans a3, b4.trans a4⟩
    · rw [← a1 a b j h1 h2 h3]
      have := b1 a b j h2 h3
      simp only [qil] at this
      simp [f_e1, f_copy, qii, h1, this]
    · rw [← a2 a b j h1 h2 h3]
      have := b2 a b j h3
      simp [qll, h1, h2] at this
      simp [f_e1, f_copy, qli, this]
theorem lp_X6_end {t nc p : Nat} (hS : SHC h NA NH NI) (ht : t < 6) (e : qg_i h 15 t 2 = nI nc) (hnc : nc ≤ 40) (ep : qg_i h 10 t 6 = nI p) {n0 : Nat → Nat} {Post : Option qV → qH → Prop} (hP : Post none (f_end h t nc p)) :
    ∀ (m r : Nat), r + m = 4 → Vw yX6_endPeriod cX6_endPeriod 2 none (qrm 1 22 0 0) 0 0 n0 Post 2 [(0, .inr (.inr (some (10, t)))), (1, .inl (nI r))] [] (f_e1 h t r) 0 0 := by
  intro m
  induction m with
  | zero =>
    intro r hr
    have hr : r = 4 := by omega
    subst hr
    obtain ⟨a1, a2, a3, a4⟩ := e1_fr (h := h) (t := t) 4
    have hSg : SHC (f_e1 h t 4) NA NH NI := by unfold SHC; rw [a4]; exact hS
    have e1 : qg_i (f_e1 h t 4) 15 t 2 = nI nc := by rw [a1 15 t 2 (by decide) (by decide) (by decide)]; exact e
    have e2 : qg_i (f_e1 h t 4) 10 t 6 = nI p := by rw [a1 10 t 6 (by decide) (by decide) (by decide)]; exact ep
    refine V_iload_n 3 dX6_endPeriod_2 rfl rfl ?_
    refine V_iconst (v := 4) 4 dX6_endPeriod_3 rfl (by decide) ?_
    refine V_icmp_ge 42 7 dX6_endPeriod_4 rfl rfl (fun c_4 => ?_) (fun c_4 => ?_)
    · skip
      refine V_aload_n 43 dX6_endPeriod_42 rfl rfl ?_
      refine V_getR 46 6 5 fl_X6_30 dX6_endPeriod_43 rfl rfl (by decide) (Or.inl ⟨_, rfl⟩) (by decide) (sh_6_5 hSg (by omega)) ?_
      refine V_aload_n 47 dX6_endPeriod_46 rfl rfl ?_
      refine V_getiV 50 6 6 fl_X6_80 dX6_endPeriod_47 rfl rfl (by decide) rfl (by decide) e2 ?_
      refine V_cV1v 53 (ct_X1_endIn hSg ht e1 hnc) cs_X6_83 rfl rfl (by decide) dX6_endPeriod_50 rfl ⟨Nat.le_of_ble_eq_true rfl, Nat.le_of_ble_eq_true rfl⟩ (Nat.le_of_ble_eq_true rfl) ⟨Nat.le_of_ble_eq_true rfl, Nat.le_of_ble_eq_true rfl⟩ (fun h' hx hle => ?_)
      obtain rfl := hx
      refine V_aload_n 54 dX6_endPeriod_53 rfl rfl ?_
      refine V_dup 55 dX6_endPeriod_54 rfl ?_
      refine V_getiV 58 6 6 fl_X6_80 dX6_endPeriod_55 rfl rfl (by decide) rfl (by decide) e2 ?_
      refine V_iconst (v := 1) 59 dX6_endPeriod_58 rfl (by decide) ?_
      refine V_iadd 60 dX6_endPeriod_59 rfl ?_
      rw [nI_1]
      refine V_puti 63 6 6 fl_X6_80 dX6_endPeriod_60 rfl rfl (by decide) rfl (by decide) (Or.inl rfl) ?_
      refine V_vret dX6_endPeriod_63 rfl ?_ (by first | exact Nat.le_refl _ | decide | omega) (by first | exact Nat.le_refl _ | decide | omega)
      exact hP
    · skip
      exact absurd (by decide) c_4
  | succ m ih =>
    intro r hr
    obtain ⟨a1, a2, a3, a4⟩ := e1_fr (h := h) (t := t) r
    have hSg : SHC (f_e1 h t r) NA NH NI := by unfold SHC; rw [a4]; exact hS
    refine V_iload_n 3 dX6_endPeriod_2 rfl rfl ?_
    refine V_iconst (v := 4) 4 dX6_endPeriod_3 rfl (by decide) ?_
    refine V_icmp_ge 42 7 dX6_endPeriod_4 rfl rfl (fun c_4 => ?_) (fun c_4 => ?_)
    · skip
      exact absurd c_4 (nI_ge (b := 4) (by omega) (by omega))
    · skip
      refine V_aload_n 8 dX6_endPeriod_7 rfl rfl ?_
      refine V_getR 11 6 3 fl_X6_20 dX6_endPeriod_8 rfl rfl (by decide) (Or.inr ⟨_, rfl⟩) (by decide) (sh_6_3 hSg (by omega)) ?_
      refine V_iload_n 12 dX6_endPeriod_11 rfl rfl ?_
      refine V_lconst (v := 0) 13 dX6_endPeriod_12 rfl (by decide) ?_
      refine V_lastN 14 (_) dX6_endPeriod_13 rfl rfl (by decide) rfl (show _ < 4 by omega) (by decide) ?_
      refine V_aload_n 15 dX6_endPeriod_14 rfl rfl ?_
      refine V_getR 18 6 4 fl_X6_24 dX6_endPeriod_15 rfl rfl (by decide) (Or.inr ⟨_, rfl⟩) (by decide) (sh_6_4 hSg (by omega)) ?_
      refine V_iload_n 19 dX6_endPeriod_18 rfl rfl ?_
      refine V_lconst (v := 0) 20 dX6_endPeriod_19 rfl (by decide) ?_
      refine V_lastN 21 (_) dX6_endPeriod_20 rfl rfl (by decide) rfl (show _ < 4 by omega) (by decide) ?_
      refine V_aload_n 22 dX6_endPeriod_21 rfl rfl ?_
      refine V_getR 25 6 2 fl_X6_17 dX6_endPeriod_22 rfl rfl (by decide) (Or.inr ⟨_, rfl⟩) (by decide) (sh_6_2 hSg (by omega)) ?_
      refine V_iload_n 26 dX6_endPeriod_25 rfl rfl ?_
      refine V_aaldR 27 (_) dX6_endPeriod_26 rfl rfl (Or.inl ⟨_, rfl⟩) (by decide) rfl (show _ < 4 by omega) (by decide) (sa_12 hSg (by omega) (by omega)) ?_
      refine V_aload_n 28 dX6_endPeriod_27 rfl rfl ?_
      refine V_getR 31 6 1 fl_X6_11 dX6_endPeriod_28 rfl rfl (by decide) (Or.inr ⟨_, rfl⟩) (by decide) (sh_6_1 hSg (by omega)) ?_
      refine V_iload_n 32 dX6_endPeriod_31 rfl rfl ?_
      refine V_aaldR 33 (_) dX6_endPeriod_32 rfl rfl (Or.inl ⟨_, rfl⟩) (by decide) rfl (show _ < 4 by omega) (by decide) (sa_11 hSg (by omega) (by omega)) ?_
      refine V_cV1v 36 (ct_X5_copyFrom hSg (by omega) (by omega) (by omega)) cs_X6_76 rfl rfl (by decide) dX6_endPeriod_33 rfl ⟨Nat.le_of_ble_eq_true rfl, Nat.le_of_ble_eq_true rfl⟩ (Nat.le_of_ble_eq_true rfl) ⟨Nat.le_of_ble_eq_true rfl, Nat.le_of_ble_eq_true rfl⟩ (fun h' hx hle => ?_)
      obtain rfl := hx
      refine V_iincN 39 dX6_endPeriod_36 rfl rfl (by decide) ?_
      refine V_goto 2 dX6_endPeriod_39 rfl ?_
      exact V_at (ih (r + 1) (by omega)) ⟨rfl, rfl, trivial⟩
theorem ct_X6_endPeriod {t nc p : Nat} (hS : SHC h NA NH NI) (ht : t < 6) (e : qg_i h 15 t 2 = nI nc) (hnc : nc ≤ 40) (ep : qg_i h 10 t 6 = nI p) : qM yX6_endPeriod cX6_endPeriod 2 none 1 22 0 0 [.inr (.inr (some (10, t)))] h (pV fun h' => h' = f_end h t nc p) := by
  refine qM.of (plainFor_of_name (by decide)) (Nat.le_of_ble_eq_true rfl) ?_
  refine V_iconst (v := 0) 1 dX6_endPeriod_0 rfl (by decide) ?_
  refine V_istore_n 2 dX6_endPeriod_1 rfl (by decide) ?_
  exact V_at (lp_X6_end hS ht e hnc ep ⟨rfl, rfl⟩ 4 0 (by omega)) ⟨rfl, rfl, trivial⟩
end CC
