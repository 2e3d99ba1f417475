/-! The class: quantities, events, holds that end, time -/
section CE
variable {h : qH} {NA NH NI : Nat}
/-- an account's tenant -/
def ow (h : qH) (a : Nat) : Nat := match qg_r h 22 a 1 with
  | none => 0
  | some o => o.2
def WW (h : qH) (n : Nat) : Prop := ∀ a, a < n → ∃ t, t < 6 ∧ qg_r h 22 a 1 = some (10, t)
theorem WW.o2 {n a : Nat} (W : WW h n) (ha : a < n) : ow h a < 6 ∧ qg_r h 22 a 1 = some (10, ow h a) := by
  obtain ⟨t, ht, e⟩ := W a ha
  have : ow h a = t := by unfold ow; rw [e]
  rw [this]
  exact ⟨ht, e⟩
def WN (h : qH) : Prop := ∀ t, t < 6 → qg_i h 10 t 0 = nI t
def f_q1 (h : qH) (t r p a : Nat) : Int64 := if par h a = -1 ∧ ow h a = t then qg_l h 24 (4 * a + r) p else 0
def f_qty (h : qH) (na t r p : Nat) : Int64 := sm_l (f_q1 h t r p) na
theorem lp_X7_quantityOf {t r p : Nat} (hS : SHC h NA NH NI) (e : qg_i h 1 0 6 = nI NA) (hNA : NA ≤ 24) (hO : WO h NA) (hW : WW h NA) (hN : WN h) (ht : t < 6) (hr : r < 4) (hp : p < 100) {n0 : Nat → Nat} {Post : Option qV → qH → Prop} (hP : Post (some (.inr (.inl (f_qty h NA t r p)))) h) :
    ∀ (m a : Nat), a + m = NA → Vw yX7_quantityOf cX7_quantityOf 8 ((some .long)) (qrm 0 0 0 0) 0 0 n0 Post 6 [(0, .inr (.inr (some (1, 0)))), (1, .inr (.inr (some (10, t)))), (2, .inl (nI r)), (3, .inl (nI p)), (4, .inr (.inl (sm_l (f_q1 h t r p) a))), (6, .inl (nI a))] [] h 0 0 := by
  intro m
  induction m with
  | zero =>
    intro a ha
    have ha : a = NA := by omega
    subst ha
    refine V_iload 8 dX7_quantityOf_6 rfl rfl ?_
    refine V_aload_n 9 dX7_quantityOf_8 rfl rfl ?_
    refine V_getiV 12 7 6 fl_X7_59 dX7_quantityOf_9 rfl rfl (by decide) rfl (by decide) e ?_
    refine V_icmp_ge 72 15 dX7_quantityOf_12 rfl rfl (fun c_12 => ?_) (fun c_12 => ?_)
    · skip
      refine V_lload 74 dX7_quantityOf_72 rfl rfl ?_
      refine V_lret dX7_quantityOf_74 rfl ?_ (by first | exact Nat.le_refl _ | decide | omega) (by first | exact Nat.le_refl _ | decide | omega)
      exact hP
    · skip
      exact absurd (nI_le (Nat.le_refl _) (by omega)) c_12
  | succ m ih =>
    intro a ha
    obtain ⟨w1, w2⟩ := hW.o2 (show a < NA by omega)
    have nxt : ∀ z, z = sm_l (f_q1 h t r p) (a + 1) → Vw yX7_quantityOf cX7_quantityOf 8 ((some .long)) (qrm 0 0 0 0) 0 0 n0 Post 66 [(0, .inr (.inr (some (1, 0)))), (1, .inr (.inr (some (10, t)))), (2, .inl (nI r)), (3, .inl (nI p)), (4, .inr (.inl z)), (6, .inl (nI a))] [] h 0 0 := by
      intro z hz
      subst hz
      refine V_iincN 69 dX7_quantityOf_66 rfl rfl (by decide) ?_
      refine V_goto 6 dX7_quantityOf_69 rfl ?_
      exact V_at (ih (a + 1) (by omega)) ⟨rfl, rfl, rfl, rfl, rfl, rfl, trivial⟩
    rcases hO a (by omega) with e0 | ⟨o, ho, e0⟩
    · skip
      refine V_iload 8 dX7_quantityOf_6 rfl rfl ?_
      refine V_aload_n 9 dX7_quantityOf_8 rfl rfl ?_
      refine V_getiV 12 7 6 fl_X7_59 dX7_quantityOf_9 rfl rfl (by decide) rfl (by decide) e ?_
      refine V_icmp_ge 72 15 dX7_quantityOf_12 rfl rfl (fun c_12 => ?_) (fun c_12 => ?_)
      · skip
        exact absurd c_12 (nI_ge (by omega) (by omega))
      · skip
        refine V_aload_n 16 dX7_quantityOf_15 rfl rfl ?_
        refine V_getR 19 7 1 fl_X7_17 dX7_quantityOf_16 rfl rfl (by decide) (Or.inr ⟨_, rfl⟩) (by decide) (sh_7_1 hS) ?_
        refine V_iload 21 dX7_quantityOf_19 rfl rfl ?_
        refine V_aaldR 22 (_) dX7_quantityOf_21 rfl rfl (Or.inl ⟨_, rfl⟩) (by decide) rfl (show _ < 24 by omega) (by decide) (sa_3 hS (by omega)) ?_
        refine V_astore 24 dX7_quantityOf_22 rfl (by decide) ?_
        refine V_aload 26 dX7_quantityOf_24 rfl rfl ?_
        refine V_ifnull 66 29 dX7_quantityOf_26 rfl rfl (fun c_26 => ?_) (fun a_26 c_26 => ?_)
        · skip
          cases c_26
        · skip
          cases c_26
          refine V_aload 31 dX7_quantityOf_29 rfl rfl ?_
          refine V_getR 34 0 2 fl_X7_297 dX7_quantityOf_31 rfl rfl (by decide) (Or.inl ⟨_, rfl⟩) (by decide) e0 ?_
          refine V_ifnonnull 66 37 dX7_quantityOf_34 rfl rfl (fun c_34 => ?_) (fun a_34 c_34 => ?_)
          · skip
            refine V_aload 39 dX7_quantityOf_37 rfl rfl ?_
            refine V_getR 42 0 1 fl_X7_51 dX7_quantityOf_39 rfl rfl (by decide) (Or.inl ⟨_, rfl⟩) (by decide) w2 ?_
            refine V_getiV 45 6 0 fl_X7_55 dX7_quantityOf_42 rfl rfl (by decide) rfl (by decide) (hN _ w1) ?_
            refine V_aload_n 46 dX7_quantityOf_45 rfl rfl ?_
            refine V_getiV 49 6 0 fl_X7_55 dX7_quantityOf_46 rfl rfl (by decide) rfl (by decide) (hN _ ht) ?_
            refine V_icmp_ne 66 52 dX7_quantityOf_49 rfl rfl (fun c_49 => ?_) (fun c_49 => ?_)
            · skip
              refine V_at (nxt _ ?_) ⟨rfl, rfl, rfl, rfl, rfl, rfl, trivial⟩
              have ee : nI (ow h a) = nI t ↔ ow h a = t := nI_eq (by omega) (by omega)
              simp only [sm_l, f_q1, par_none e0]
              grind
            · skip
              refine V_lload 54 dX7_quantityOf_52 rfl rfl ?_
              refine V_aload 56 dX7_quantityOf_54 rfl rfl ?_
              refine V_getR 59 0 3 fl_X7_226 dX7_quantityOf_56 rfl rfl (by decide) (Or.inr ⟨_, rfl⟩) (by decide) (sh_0_3 hS (by omega)) ?_
              refine V_iload_n 60 dX7_quantityOf_59 rfl rfl ?_
              refine V_aaldR 61 (_) dX7_quantityOf_60 rfl rfl (Or.inr ⟨_, rfl⟩) (by decide) rfl (show _ < 4 by omega) (by decide) (sa_23 hS (by omega) (by omega)) ?_
              refine V_iload_n 62 dX7_quantityOf_61 rfl rfl ?_
              refine V_laldN 63 (_) dX7_quantityOf_62 rfl rfl (by decide) rfl (show _ < 100 by omega) (by decide) ?_
              refine V_ladd 64 dX7_quantityOf_63 rfl ?_
              refine V_lstore 66 dX7_quantityOf_64 rfl (by decide) ?_
              refine V_at (nxt _ ?_) ⟨rfl, rfl, rfl, rfl, rfl, rfl, trivial⟩
              have ee : nI (ow h a) = nI t ↔ ow h a = t := nI_eq (by omega) (by omega)
              simp only [sm_l, f_q1, par_none e0]
              grind
          · skip
            cases c_34
    · skip
      refine V_iload 8 dX7_quantityOf_6 rfl rfl ?_
      refine V_aload_n 9 dX7_quantityOf_8 rfl rfl ?_
      refine V_getiV 12 7 6 fl_X7_59 dX7_quantityOf_9 rfl rfl (by decide) rfl (by decide) e ?_
      refine V_icmp_ge 72 15 dX7_quantityOf_12 rfl rfl (fun c_12 => ?_) (fun c_12 => ?_)
      · skip
        exact absurd c_12 (nI_ge (by omega) (by omega))
      · skip
        refine V_aload_n 16 dX7_quantityOf_15 rfl rfl ?_
        refine V_getR 19 7 1 fl_X7_17 dX7_quantityOf_16 rfl rfl (by decide) (Or.inr ⟨_, rfl⟩) (by decide) (sh_7_1 hS) ?_
        refine V_iload 21 dX7_quantityOf_19 rfl rfl ?_
        refine V_aaldR 22 (_) dX7_quantityOf_21 rfl rfl (Or.inl ⟨_, rfl⟩) (by decide) rfl (show _ < 24 by omega) (by decide) (sa_3 hS (by omega)) ?_
        refine V_astore 24 dX7_quantityOf_22 rfl (by decide) ?_
        refine V_aload 26 dX7_quantityOf_24 rfl rfl ?_
        refine V_ifnull 66 29 dX7_quantityOf_26 rfl rfl (fun c_26 => ?_) (fun a_26 c_26 => ?_)
        · skip
          cases c_26
        · skip
          cases c_26
          refine V_aload 31 dX7_quantityOf_29 rfl rfl ?_
          refine V_getR 34 0 2 fl_X7_297 dX7_quantityOf_31 rfl rfl (by decide) (Or.inl ⟨_, rfl⟩) (by decide) e0 ?_
          refine V_ifnonnull 66 37 dX7_quantityOf_34 rfl rfl (fun c_34 => ?_) (fun a_34 c_34 => ?_)
          · skip
            cases c_34
          · skip
            refine V_at (nxt _ ?_) ⟨rfl, rfl, rfl, rfl, rfl, rfl, trivial⟩
            have e2 : ¬ par h a = -1 := by rw [par_some e0]; exact nI_ne_m1 (by omega)
            simp only [sm_l, f_q1, e2]
            grind
theorem ct_X7_quantityOf {t r p : Nat} (hS : SHC h NA NH NI) (e : qg_i h 1 0 6 = nI NA) (hNA : NA ≤ 24) (hO : WO h NA) (hW : WW h NA) (hN : WN h) (ht : t < 6) (hr : r < 4) (hp : p < 100) : qM yX7_quantityOf cX7_quantityOf 8 ((some .long)) 0 0 0 0 [.inr (.inr (some (1, 0))), .inr (.inr (some (10, t))), .inl (nI r), .inl (nI p)] h (pL fun x h' => x = f_qty h NA t r p ∧ h' = h) := by
  refine qM.of (plainFor_of_name (by decide)) (Nat.le_of_ble_eq_true rfl) ?_
  refine V_lconst (v := 0) 1 dX7_quantityOf_0 rfl (by decide) ?_
  refine V_lstore 3 dX7_quantityOf_1 rfl (by decide) ?_
  refine V_iconst (v := 0) 4 dX7_quantityOf_3 rfl (by decide) ?_
  refine V_istore 6 dX7_quantityOf_4 rfl (by decide) ?_
  exact V_at (lp_X7_quantityOf hS e hNA hO hW hN ht hr hp ⟨_, rfl, rfl, rfl⟩ NA 0 (by omega)) ⟨rfl, rfl, rfl, rfl, rfl, rfl, trivial⟩
theorem ct_X7_countUnits_new {a r p : Nat} {u : Int32} (hS : SHC h NA NH NI) (hNA : NA ≤ 24) (hO : WO h NA) (hW : WW h NA) (ha : a < NA) (hr : r < 4) (hp : p < 100) (hc : qg_i h 10 (ow h a) 6 ≤ nI p) : qM yX7_countUnits cX7_countUnits 6 ((some .int)) 4 99 0 0 [.inr (.inr (some (1, 0))), .inr (.inr (some (22, a))), .inl (nI r), .inl u, .inl (nI p)] h (pI fun x h' => x = 0 ∧ h' = auF h (ly (par h) a) r p u.toInt64) := by
  obtain ⟨w1, w2⟩ := hW.o2 ha
  refine qM.of (plainFor_of_name (by decide)) (Nat.le_of_ble_eq_true rfl) ?_
  refine V_iload 2 dX7_countUnits_0 rfl rfl ?_
  refine V_aload_n 3 dX7_countUnits_2 rfl rfl ?_
  refine V_getR 6 0 1 fl_X7_51 dX7_countUnits_3 rfl rfl (by decide) (Or.inl ⟨_, rfl⟩) (by decide) w2 ?_
  refine V_geti 9 6 6 fl_X7_191 dX7_countUnits_6 rfl rfl (by decide) rfl (by decide) ?_
  refine V_icmp_ge 16 12 dX7_countUnits_9 rfl rfl (fun c_9 => ?_) (fun c_9 => ?_)
  · skip
    refine V_iconst (v := 0) 17 dX7_countUnits_16 rfl (by decide) ?_
    refine V_istore 19 dX7_countUnits_17 rfl (by decide) ?_
    refine V_iload 21 dX7_countUnits_19 rfl rfl ?_
    refine V_if_eq 44 24 dX7_countUnits_21 rfl rfl (fun c_21 => ?_) (fun c_21 => ?_)
    · skip
      refine V_aload_n 45 dX7_countUnits_44 rfl rfl ?_
      refine V_iload_n 46 dX7_countUnits_45 rfl rfl ?_
      refine V_iload 48 dX7_countUnits_46 rfl rfl ?_
      refine V_iload_n 49 dX7_countUnits_48 rfl rfl ?_
      refine V_cV3v 52 (ct_X0_addUsed hS hO hNA ha hr hp) cs_X7_293 rfl rfl (by decide) dX7_countUnits_49 rfl ⟨Nat.le_of_ble_eq_true rfl, Nat.le_of_ble_eq_true rfl⟩ (Nat.le_of_ble_eq_true rfl) ⟨Nat.le_of_ble_eq_true rfl, Nat.le_of_ble_eq_true rfl⟩ (fun h' hx hle => ?_)
      obtain rfl := hx
      refine V_iload 54 dX7_countUnits_52 rfl rfl ?_
      refine V_if_eq 61 57 dX7_countUnits_54 rfl rfl (fun c_54 => ?_) (fun c_54 => ?_)
      · skip
        refine V_iconst (v := 0) 62 dX7_countUnits_61 rfl (by decide) ?_
        refine V_iret dX7_countUnits_62 rfl rfl ⟨_, rfl, ?_⟩ (by first | exact Nat.le_refl _ | decide | omega) (by first | exact Nat.le_refl _ | decide | omega)
        exact ⟨rfl, rfl⟩
      · skip
        exact absurd rfl c_54
    · skip
      exact absurd rfl c_21
  · skip
    exact absurd hc c_9
theorem ct_X7_countUnits_adj {a r p k : Nat} {u : Int32} (hS : SHC h NA NH NI) (e : qg_i h 1 0 6 = nI NA) (hNA : NA ≤ 24) (hO : WO h NA) (hW : WW h NA) (hN : WN h) (ha : a < NA) (hr : r < 4) (hp : p < 100) (hc : nI p < qg_i h 10 (ow h a) 6) (hk : k < 5) (hz : 1 ≤ qg_i h 18 (8 * ow h a + 2 * r + 1) 5) (ek : qg_i h 18 (8 * ow h a + 2 * r + 1) 3 = nI (k + 1)) : qM yX7_countUnits cX7_countUnits 6 ((some .int)) 4 99 0 0 [.inr (.inr (some (1, 0))), .inr (.inr (some (22, a))), .inl (nI r), .inl u, .inl (nI p)] h (pI fun x h' => x = 1 ∧ h' = auF (f_adj h (ow h a) r k (f_qty h NA (ow h a) r p) u.toInt64) (ly (par h) a) r p u.toInt64) := by
  obtain ⟨w1, w2⟩ := hW.o2 ha
  refine qM.of (plainFor_of_name (by decide)) (Nat.le_of_ble_eq_true rfl) ?_
  refine V_iload 2 dX7_countUnits_0 rfl rfl ?_
  refine V_aload_n 3 dX7_countUnits_2 rfl rfl ?_
  refine V_getR 6 0 1 fl_X7_51 dX7_countUnits_3 rfl rfl (by decide) (Or.inl ⟨_, rfl⟩) (by decide) w2 ?_
  refine V_geti 9 6 6 fl_X7_191 dX7_countUnits_6 rfl rfl (by decide) rfl (by decide) ?_
  refine V_icmp_ge 16 12 dX7_countUnits_9 rfl rfl (fun c_9 => ?_) (fun c_9 => ?_)
  · skip
    grind
  · skip
    refine V_iconst (v := 1) 13 dX7_countUnits_12 rfl (by decide) ?_
    refine V_goto 17 dX7_countUnits_13 rfl ?_
    refine V_istore 19 dX7_countUnits_17 rfl (by decide) ?_
    refine V_iload 21 dX7_countUnits_19 rfl rfl ?_
    refine V_if_eq 44 24 dX7_countUnits_21 rfl rfl (fun c_21 => ?_) (fun c_21 => ?_)
    · skip
      exact absurd c_21 (by decide)
    · skip
      refine V_aload_n 25 dX7_countUnits_24 rfl rfl ?_
      refine V_getR 28 0 1 fl_X7_51 dX7_countUnits_25 rfl rfl (by decide) (Or.inl ⟨_, rfl⟩) (by decide) w2 ?_
      refine V_iload_n 29 dX7_countUnits_28 rfl rfl ?_
      refine V_aload_n 30 dX7_countUnits_29 rfl rfl ?_
      refine V_aload_n 31 dX7_countUnits_30 rfl rfl ?_
      refine V_getR 34 0 1 fl_X7_51 dX7_countUnits_31 rfl rfl (by decide) (Or.inl ⟨_, rfl⟩) (by decide) w2 ?_
      refine V_iload_n 35 dX7_countUnits_34 rfl rfl ?_
      refine V_iload 37 dX7_countUnits_35 rfl rfl ?_
      refine V_cV3l 40 (ct_X7_quantityOf hS e hNA hO hW hN w1 hr hp) cs_X7_285 rfl rfl (by decide) dX7_countUnits_37 rfl ⟨Nat.le_of_ble_eq_true rfl, Nat.le_of_ble_eq_true rfl⟩ (Nat.le_of_ble_eq_true rfl) ⟨Nat.le_of_ble_eq_true rfl, Nat.le_of_ble_eq_true rfl⟩ (fun x h' hx hle => ?_)
      obtain ⟨rfl, rfl⟩ := hx
      refine V_iload_n 41 dX7_countUnits_40 rfl rfl ?_
      refine V_cV3v 44 (ct_X6_adjust hS w1 hr hk hz ek) cs_X7_289 rfl rfl (by decide) dX7_countUnits_41 rfl ⟨Nat.le_of_ble_eq_true rfl, Nat.le_of_ble_eq_true rfl⟩ (Nat.le_of_ble_eq_true rfl) ⟨Nat.le_of_ble_eq_true rfl, Nat.le_of_ble_eq_true rfl⟩ (fun h' hx hle => ?_)
      obtain rfl := hx
      refine V_aload_n 45 dX7_countUnits_44 rfl rfl ?_
      refine V_iload_n 46 dX7_countUnits_45 rfl rfl ?_
      refine V_iload 48 dX7_countUnits_46 rfl rfl ?_
      refine V_iload_n 49 dX7_countUnits_48 rfl rfl ?_
      refine V_cV3v 52 (ct_X0_addUsed (NA := NA) (NH := NH) (NI := NI) hS hO hNA ha hr hp) cs_X7_293 rfl rfl (by decide) dX7_countUnits_49 rfl ⟨Nat.le_of_ble_eq_true rfl, Nat.le_of_ble_eq_true rfl⟩ (Nat.le_of_ble_eq_true rfl) ⟨Nat.le_of_ble_eq_true rfl, Nat.le_of_ble_eq_true rfl⟩ (fun h' hx hle => ?_)
      obtain rfl := hx
      refine V_iload 54 dX7_countUnits_52 rfl rfl ?_
      refine V_if_eq 61 57 dX7_countUnits_54 rfl rfl (fun c_54 => ?_) (fun c_54 => ?_)
      · skip
        exact absurd c_54 (by decide)
      · skip
        refine V_iconst (v := 1) 58 dX7_countUnits_57 rfl (by decide) ?_
        refine V_goto 62 dX7_countUnits_58 rfl ?_
        refine V_iret dX7_countUnits_62 rfl rfl ⟨_, rfl, ?_⟩ (by first | exact Nat.le_refl _ | decide | omega) (by first | exact Nat.le_refl _ | decide | omega)
        exact ⟨rfl, rfl⟩
theorem ct_X7_event_bad {key : Int64} {a r u mi : Int32} (hS : SHC h NA NH NI) (e : qg_i h 1 0 6 = nI NA) (hNA : NA ≤ 24) (hbad : ¬ ((0 ≤ a ∧ a < nI NA) ∧ (0 ≤ r ∧ r < 4) ∧ (1 ≤ u ∧ u ≤ 1000000) ∧ 0 ≤ mi)) : qM yX7_event cX7_event 8 ((some .int)) 5 124 0 0 [.inr (.inr (some (1, 0))), .inr (.inl key), .inl a, .inl r, .inl u, .inl mi] h (pI fun x h' => x = -2 ∧ h' = h) := by
  rcases ix_c (x := a) (n := NA) (by omega) with z | ⟨b, hb, rfl⟩
  · refine qM.of (plainFor_of_name (by decide)) (Nat.le_of_ble_eq_true rfl) ?_
    refine V_aload_n 1 dX7_event_0 rfl rfl ?_
    refine V_iload_n 2 dX7_event_1 rfl rfl ?_
    refine V_cV1r 5 (acc_no e z) cs_X7_47 rfl rfl (by decide) dX7_event_2 rfl ⟨Nat.le_of_ble_eq_true rfl, Nat.le_of_ble_eq_true rfl⟩ (Nat.le_of_ble_eq_true rfl) ⟨Nat.le_of_ble_eq_true rfl, Nat.le_of_ble_eq_true rfl⟩ (fun x h' hx hle => ?_)
    obtain ⟨rfl, rfl⟩ := hx
    refine V_astore 7 dX7_event_5 rfl (by decide) ?_
    refine V_aload 9 dX7_event_7 rfl rfl ?_
    refine V_ifnull 33 12 dX7_event_9 rfl rfl (fun c_9 => ?_) (fun a_9 c_9 => ?_)
    · skip
      refine V_bipush (v := (-2)) 35 dX7_event_33 rfl (by decide) ?_
      refine V_iret dX7_event_35 rfl rfl ⟨_, rfl, ?_⟩ (by first | exact Nat.le_refl _ | decide | omega) (by first | exact Nat.le_refl _ | decide | omega)
      exact ⟨rfl, rfl⟩
    · skip
      cases c_9
  · have hv : 0 ≤ nI b ∧ nI b < nI NA := ⟨nI_pos' (by omega), nI_lt hb (by omega)⟩
    refine qM.of (plainFor_of_name (by decide)) (Nat.le_of_ble_eq_true rfl) ?_
    refine V_aload_n 1 dX7_event_0 rfl rfl ?_
    refine V_iload_n 2 dX7_event_1 rfl rfl ?_
    refine V_cV1r 5 (acc_ok hS e hNA hb) cs_X7_47 rfl rfl (by decide) dX7_event_2 rfl ⟨Nat.le_of_ble_eq_true rfl, Nat.le_of_ble_eq_true rfl⟩ (Nat.le_of_ble_eq_true rfl) ⟨Nat.le_of_ble_eq_true rfl, Nat.le_of_ble_eq_true rfl⟩ (fun x h' hx hle => ?_)
    obtain ⟨rfl, rfl⟩ := hx
    refine V_astore 7 dX7_event_5 rfl (by decide) ?_
    refine V_aload 9 dX7_event_7 rfl rfl ?_
    refine V_ifnull 33 12 dX7_event_9 rfl rfl (fun c_9 => ?_) (fun a_9 c_9 => ?_)
    · skip
      cases c_9
    · skip
      cases c_9
      refine V_iload 14 dX7_event_12 rfl rfl ?_
      refine V_cS1i 17 (ct_X7_isResource _ _) cs_X7_75 dX7_event_14 rfl ⟨Nat.le_of_ble_eq_true rfl, Nat.le_of_ble_eq_true rfl⟩ (Nat.le_of_ble_eq_true rfl) ⟨Nat.le_of_ble_eq_true rfl, Nat.le_of_ble_eq_true rfl⟩ (fun x h' hx hle => ?_)
      obtain ⟨rfl, rfl⟩ := hx
      refine V_if_eq 33 20 dX7_event_17 rfl rfl (fun c_17 => ?_) (fun c_17 => ?_)
      · skip
        refine V_bipush (v := (-2)) 35 dX7_event_33 rfl (by decide) ?_
        refine V_iret dX7_event_35 rfl rfl ⟨_, rfl, ?_⟩ (by first | exact Nat.le_refl _ | decide | omega) (by first | exact Nat.le_refl _ | decide | omega)
        exact ⟨rfl, rfl⟩
      · skip
        refine V_iload 22 dX7_event_20 rfl rfl ?_
        refine V_cS1i 25 (ct_X7_isUnits _ _) cs_X7_79 dX7_event_22 rfl ⟨Nat.le_of_ble_eq_true rfl, Nat.le_of_ble_eq_true rfl⟩ (Nat.le_of_ble_eq_true rfl) ⟨Nat.le_of_ble_eq_true rfl, Nat.le_of_ble_eq_true rfl⟩ (fun x h' hx hle => ?_)
        obtain ⟨rfl, rfl⟩ := hx
        refine V_if_eq 33 28 dX7_event_25 rfl rfl (fun c_25 => ?_) (fun c_25 => ?_)
        · skip
          refine V_bipush (v := (-2)) 35 dX7_event_33 rfl (by decide) ?_
          refine V_iret dX7_event_35 rfl rfl ⟨_, rfl, ?_⟩ (by first | exact Nat.le_refl _ | decide | omega) (by first | exact Nat.le_refl _ | decide | omega)
          exact ⟨rfl, rfl⟩
        · skip
          refine V_iload 30 dX7_event_28 rfl rfl ?_
          refine V_if_ge 36 33 dX7_event_30 rfl rfl (fun c_30 => ?_) (fun c_30 => ?_)
          · skip
            exfalso; grind
          · skip
            refine V_bipush (v := (-2)) 35 dX7_event_33 rfl (by decide) ?_
            refine V_iret dX7_event_35 rfl rfl ⟨_, rfl, ?_⟩ (by first | exact Nat.le_refl _ | decide | omega) (by first | exact Nat.le_refl _ | decide | omega)
            exact ⟨rfl, rfl⟩
section EV
variable {a r : Nat} {key : Int64} {u mi : Int32} (hS : SHC h NA NH NI) (e : qg_i h 1 0 6 = nI NA) (hNA : NA ≤ 24) (ha : a < NA) (hr : r < 4) (hu : 1 ≤ u ∧ u ≤ 1000000) (hmi : 0 ≤ mi)
theorem ct_X7_event_early (hS : SHC h NA NH NI) (e : qg_i h 1 0 6 = nI NA) (hNA : NA ≤ 24) (ha : a < NA) (hr : r < 4) (hu : 1 ≤ u ∧ u ≤ 1000000) (hmi : 0 ≤ mi) (hm : qg_i h 1 0 5 < mi) : qM yX7_event cX7_event 8 ((some .int)) 5 124 0 0 [.inr (.inr (some (1, 0))), .inr (.inl key), .inl (nI a), .inl (nI r), .inl u, .inl mi] h (pI fun x h' => x = -4 ∧ h' = h) := by
  refine qM.of (plainFor_of_name (by decide)) (Nat.le_of_ble_eq_true rfl) ?_
  refine V_aload_n 1 dX7_event_0 rfl rfl ?_
  refine V_iload_n 2 dX7_event_1 rfl rfl ?_
  refine V_cV1r 5 (acc_ok hS e hNA ha) cs_X7_47 rfl rfl (by decide) dX7_event_2 rfl ⟨Nat.le_of_ble_eq_true rfl, Nat.le_of_ble_eq_true rfl⟩ (Nat.le_of_ble_eq_true rfl) ⟨Nat.le_of_ble_eq_true rfl, Nat.le_of_ble_eq_true rfl⟩ (fun x h' hx hle => ?_)
  obtain ⟨rfl, rfl⟩ := hx
  refine V_astore 7 dX7_event_5 rfl (by decide) ?_
  refine V_aload 9 dX7_event_7 rfl rfl ?_
  refine V_ifnull 33 12 dX7_event_9 rfl rfl (fun c_9 => ?_) (fun a_9 c_9 => ?_)
  · skip
    cases c_9
  · skip
    cases c_9
    refine V_iload 14 dX7_event_12 rfl rfl ?_
    refine V_cS1i 17 (cr_ok hr) cs_X7_75 dX7_event_14 rfl ⟨Nat.le_of_ble_eq_true rfl, Nat.le_of_ble_eq_true rfl⟩ (Nat.le_of_ble_eq_true rfl) ⟨Nat.le_of_ble_eq_true rfl, Nat.le_of_ble_eq_true rfl⟩ (fun x h' hx hle => ?_)
    obtain ⟨rfl, rfl⟩ := hx
    refine V_if_eq 33 20 dX7_event_17 rfl rfl (fun c_17 => ?_) (fun c_17 => ?_)
    · skip
      exfalso; grind
    · skip
      refine V_iload 22 dX7_event_20 rfl rfl ?_
      refine V_cS1i 25 (cu_ok hu) cs_X7_79 dX7_event_22 rfl ⟨Nat.le_of_ble_eq_true rfl, Nat.le_of_ble_eq_true rfl⟩ (Nat.le_of_ble_eq_true rfl) ⟨Nat.le_of_ble_eq_true rfl, Nat.le_of_ble_eq_true rfl⟩ (fun x h' hx hle => ?_)
      obtain ⟨rfl, rfl⟩ := hx
      refine V_if_eq 33 28 dX7_event_25 rfl rfl (fun c_25 => ?_) (fun c_25 => ?_)
      · skip
        exfalso; grind
      · skip
        refine V_iload 30 dX7_event_28 rfl rfl ?_
        refine V_if_ge 36 33 dX7_event_30 rfl rfl (fun c_30 => ?_) (fun c_30 => ?_)
        · skip
          refine V_iload 38 dX7_event_36 rfl rfl ?_
          refine V_aload_n 39 dX7_event_38 rfl rfl ?_
          refine V_geti 42 7 5 fl_X7_65 dX7_event_39 rfl rfl (by decide) rfl (by decide) ?_
          refine V_icmp_le 48 45 dX7_event_42 rfl rfl (fun c_42 => ?_) (fun c_42 => ?_)
          · skip
            grind
          · skip
            refine V_bipush (v := (-4)) 47 dX7_event_45 rfl (by decide) ?_
            refine V_iret dX7_event_47 rfl rfl ⟨_, rfl, ?_⟩ (by first | exact Nat.le_refl _ | decide | omega) (by first | exact Nat.le_refl _ | decide | omega)
            exact ⟨rfl, rfl⟩
        · skip
          exfalso; grind
theorem ct_X7_event_late (hS : SHC h NA NH NI) (e : qg_i h 1 0 6 = nI NA) (hNA : NA ≤ 24) (ha : a < NA) (hr : r < 4) (hu : 1 ≤ u ∧ u ≤ 1000000) (hmi : 0 ≤ mi) (hm : mi ≤ qg_i h 1 0 5) (hl : 500 < qg_i h 1 0 5 - mi) : qM yX7_event cX7_event 8 ((some .int)) 5 124 0 0 [.inr (.inr (some (1, 0))), .inr (.inl key), .inl (nI a), .inl (nI r), .inl u, .inl mi] h (pI fun x h' => x = -5 ∧ h' = h) := by
  refine qM.of (plainFor_of_name (by decide)) (Nat.le_of_ble_eq_true rfl) ?_
  refine V_aload_n 1 dX7_event_0 rfl rfl ?_
  refine V_iload_n 2 dX7_event_1 rfl rfl ?_
  refine V_cV1r 5 (acc_ok hS e hNA ha) cs_X7_47 rfl rfl (by decide) dX7_event_2 rfl ⟨Nat.le_of_ble_eq_true rfl, Nat.le_of_ble_eq_true rfl⟩ (Nat.le_of_ble_eq_true rfl) ⟨Nat.le_of_ble_eq_true rfl, Nat.le_of_ble_eq_true rfl⟩ (fun x h' hx hle => ?_)
  obtain ⟨rfl, rfl⟩ := hx
  refine V_astore 7 dX7_event_5 rfl (by decide) ?_
  refine V_aload 9 dX7_event_7 rfl rfl ?_
  refine V_ifnull 33 12 dX7_event_9 rfl rfl (fun c_9 => ?_) (fun a_9 c_9 => ?_)
  · skip
    cases c_9
  · skip
    cases c_9
    refine V_iload 14 dX7_event_12 rfl rfl ?_
    refine V_cS1i 17 (cr_ok hr) cs_X7_75 dX7_event_14 rfl ⟨Nat.le_of_ble_eq_true rfl, Nat.le_of_ble_eq_true rfl⟩ (Nat.le_of_ble_eq_true rfl) ⟨Nat.le_of_ble_eq_true rfl, Nat.le_of_ble_eq_true rfl⟩ (fun x h' hx hle => ?_)
    obtain ⟨rfl, rfl⟩ := hx
    refine V_if_eq 33 20 dX7_event_17 rfl rfl (fun c_17 => ?_) (fun c_17 => ?_)
    · skip
      exfalso; grind
    · skip
      refine V_iload 22 dX7_event_20 rfl rfl ?_
      refine V_cS1i 25 (cu_ok hu) cs_X7_79 dX7_event_22 rfl ⟨Nat.le_of_ble_eq_true rfl, Nat.le_of_ble_eq_true rfl⟩ (Nat.le_of_ble_eq_true rfl) ⟨Nat.le_of_ble_eq_true rfl, Nat.le_of_ble_eq_true rfl⟩ (fun x h' hx hle => ?_)
      obtain ⟨rfl, rfl⟩ := hx
      refine V_if_eq 33 28 dX7_event_25 rfl rfl (fun c_25 => ?_) (fun c_25 => ?_)
      · skip
        exfalso; grind
      · skip
        refine V_iload 30 dX7_event_28 rfl rfl ?_
        refine V_if_ge 36 33 dX7_event_30 rfl rfl (fun c_30 => ?_) (fun c_30 => ?_)
        · skip
          refine V_iload 38 dX7_event_36 rfl rfl ?_
          refine V_aload_n 39 dX7_event_38 rfl rfl ?_
          refine V_geti 42 7 5 fl_X7_65 dX7_event_39 rfl rfl (by decide) rfl (by decide) ?_
          refine V_icmp_le 48 45 dX7_event_42 rfl rfl (fun c_42 => ?_) (fun c_42 => ?_)
          · skip
            refine V_aload_n 49 dX7_event_48 rfl rfl ?_
            refine V_geti 52 7 5 fl_X7_65 dX7_event_49 rfl rfl (by decide) rfl (by decide) ?_
            refine V_iload 54 dX7_event_52 rfl rfl ?_
            refine V_isub 55 dX7_event_54 rfl ?_
            refine V_sipush (v := 500) 58 dX7_event_55 rfl (by decide) ?_
            refine V_icmp_le 64 61 dX7_event_58 rfl rfl (fun c_58 => ?_) (fun c_58 => ?_)
            · skip
              grind
            · skip
              refine V_bipush (v := (-5)) 63 dX7_event_61 rfl (by decide) ?_
              refine V_iret dX7_event_63 rfl rfl ⟨_, rfl, ?_⟩ (by first | exact Nat.le_refl _ | decide | omega) (by first | exact Nat.le_refl _ | decide | omega)
              exact ⟨rfl, rfl⟩
          · skip
            grind
        · skip
          exfalso; grind
theorem ct_X7_event_dup {nk : Nat} (hS : SHC h NA NH NI) (e : qg_i h 1 0 6 = nI NA) (hNA : NA ≤ 24) (ha : a < NA) (hr : r < 4) (hu : 1 ≤ u ∧ u ≤ 1000000) (hmi : 0 ≤ mi) (hm : mi ≤ qg_i h 1 0 5) (hl : qg_i h 1 0 5 - mi ≤ 500) (hW : WW h NA) (hN : WN h) (ek : qg_i h 6 0 3 = nI nk) (hnk : nk ≤ 300) (hk : kn (kl h 7 8 9 nk) key (nI (ow h a))) : qM yX7_event cX7_event 8 ((some .int)) 5 124 0 0 [.inr (.inr (some (1, 0))), .inr (.inl key), .inl (nI a), .inl (nI r), .inl u, .inl mi] h (pI fun x h' => x = -6 ∧ h' = h) := by
  obtain ⟨w1, w2⟩ := hW.o2 ha
  refine qM.of (plainFor_of_name (by decide)) (Nat.le_of_ble_eq_true rfl) ?_
  refine V_aload_n 1 dX7_event_0 rfl rfl ?_
  refine V_iload_n 2 dX7_event_1 rfl rfl ?_
  refine V_cV1r 5 (acc_ok hS e hNA ha) cs_X7_47 rfl rfl (by decide) dX7_event_2 rfl ⟨Nat.le_of_ble_eq_true rfl, Nat.le_of_ble_eq_true rfl⟩ (Nat.le_of_ble_eq_true rfl) ⟨Nat.le_of_ble_eq_true rfl, Nat.le_of_ble_eq_true rfl⟩ (fun x h' hx hle => ?_)
  obtain ⟨rfl, rfl⟩ := hx
  refine V_astore 7 dX7_event_5 rfl (by decide) ?_
  refine V_aload 9 dX7_event_7 rfl rfl ?_
  refine V_ifnull 33 12 dX7_event_9 rfl rfl (fun c_9 => ?_) (fun a_9 c_9 => ?_)
  · skip
    cases c_9
  · skip
    cases c_9
    refine V_iload 14 dX7_event_12 rfl rfl ?_
    refine V_cS1i 17 (cr_ok hr) cs_X7_75 dX7_event_14 rfl ⟨Nat.le_of_ble_eq_true rfl, Nat.le_of_ble_eq_true rfl⟩ (Nat.le_of_ble_eq_true rfl) ⟨Nat.le_of_ble_eq_true rfl, Nat.le_of_ble_eq_true rfl⟩ (fun x h' hx hle => ?_)
    obtain ⟨rfl, rfl⟩ := hx
    refine V_if_eq 33 20 dX7_event_17 rfl rfl (fun c_17 => ?_) (fun c_17 => ?_)
    · skip
      exfalso; grind
    · skip
      refine V_iload 22 dX7_event_20 rfl rfl ?_
      refine V_cS1i 25 (cu_ok hu) cs_X7_79 dX7_event_22 rfl ⟨Nat.le_of_ble_eq_true rfl, Nat.le_of_ble_eq_true rfl⟩ (Nat.le_of_ble_eq_true rfl) ⟨Nat.le_of_ble_eq_true rfl, Nat.le_of_ble_eq_true rfl⟩ (fun x h' hx hle => ?_)
      obtain ⟨rfl, rfl⟩ := hx
      refine V_if_eq 33 28 dX7_event_25 rfl rfl (fun c_25 => ?_) (fun c_25 => ?_)
      · skip
        exfalso; grind
      · skip
        refine V_iload 30 dX7_event_28 rfl rfl ?_
        refine V_if_ge 36 33 dX7_event_30 rfl rfl (fun c_30 => ?_) (fun c_30 => ?_)
        · skip
          refine V_iload 38 dX7_event_36 rfl rfl ?_
          refine V_aload_n 39 dX7_event_38 rfl rfl ?_
          refine V_geti 42 7 5 fl_X7_65 dX7_event_39 rfl rfl (by decide) rfl (by decide) ?_
          refine V_icmp_le 48 45 dX7_event_42 rfl rfl (fun c_42 => ?_) (fun c_42 => ?_)
          · skip
            refine V_aload_n 49 dX7_event_48 rfl rfl ?_
            refine V_geti 52 7 5 fl_X7_65 dX7_event_49 rfl rfl (by decide) rfl (by decide) ?_
            refine V_iload 54 dX7_event_52 rfl rfl ?_
            refine V_isub 55 dX7_event_54 rfl ?_
            refine V_sipush (v := 500) 58 dX7_event_55 rfl (by decide) ?_
            refine V_icmp_le 64 61 dX7_event_58 rfl rfl (fun c_58 => ?_) (fun c_58 => ?_)
            · skip
              refine V_aload_n 65 dX7_event_64 rfl rfl ?_
              refine V_getR 68 7 4 fl_X7_36 dX7_event_65 rfl rfl (by decide) (Or.inl ⟨_, rfl⟩) (by decide) (sh_7_4 hS) ?_
              refine V_aload 70 dX7_event_68 rfl rfl ?_
              refine V_getR 73 0 1 fl_X7_51 dX7_event_70 rfl rfl (by decide) (Or.inl ⟨_, rfl⟩) (by decide) w2 ?_
              refine V_getiV 76 6 0 fl_X7_55 dX7_event_73 rfl rfl (by decide) rfl (by decide) (hN _ w1) ?_
              refine V_lload_n 77 dX7_event_76 rfl rfl ?_
              refine V_cV2i 80 (ct_X4_knows hS ek hnk) cs_X7_82 rfl rfl (by decide) dX7_event_77 rfl ⟨Nat.le_of_ble_eq_true rfl, Nat.le_of_ble_eq_true rfl⟩ (Nat.le_of_ble_eq_true rfl) ⟨Nat.le_of_ble_eq_true rfl, Nat.le_of_ble_eq_true rfl⟩ (fun x h' hx hle => ?_)
              obtain ⟨hx, rfl⟩ := hx
              refine V_if_eq 86 83 dX7_event_80 rfl rfl (fun c_80 => ?_) (fun c_80 => ?_)
              · skip
                rcases hx with ⟨-, rfl⟩ | ⟨q, -⟩; exact absurd c_80 (by decide); exact (q hk).elim
              · skip
                refine V_bipush (v := (-6)) 85 dX7_event_83 rfl (by decide) ?_
                refine V_iret dX7_event_85 rfl rfl ⟨_, rfl, ?_⟩ (by first | exact Nat.le_refl _ | decide | omega) (by first | exact Nat.le_refl _ | decide | omega)
                exact ⟨rfl, rfl⟩
            · skip
              grind
          · skip
            grind
        · skip
          exfalso; grind
theorem ct_X7_event_full (hS : SHC h NA NH NI) (e : qg_i h 1 0 6 = nI NA) (hNA : NA ≤ 24) (ha : a < NA) (hr : r < 4) (hu : 1 ≤ u ∧ u ≤ 1000000) (hmi : 0 ≤ mi) (hm : mi ≤ qg_i h 1 0 5) (hl : qg_i h 1 0 5 - mi ≤ 500) (hW : WW h NA) (hN : WN h) (ek : qg_i h 6 0 3 = nI 300) (hk : ¬ kn (kl h 7 8 9 300) key (nI (ow h a))) : qM yX7_event cX7_event 8 ((some .int)) 5 124 0 0 [.inr (.inr (some (1, 0))), .inr (.inl key), .inl (nI a), .inl (nI r), .inl u, .inl mi] h (pI fun x h' => x = -3 ∧ h' = h) := by
  obtain ⟨w1, w2⟩ := hW.o2 ha
  refine qM.of (plainFor_of_name (by decide)) (Nat.le_of_ble_eq_true rfl) ?_
  refine V_aload_n 1 dX7_event_0 rfl rfl ?_
  refine V_iload_n 2 dX7_event_1 rfl rfl ?_
  refine V_cV1r 5 (acc_ok hS e hNA ha) cs_X7_47 rfl rfl (by decide) dX7_event_2 rfl ⟨Nat.le_of_ble_eq_true rfl, Nat.le_of_ble_eq_true rfl⟩ (Nat.le_of_ble_eq_true rfl) ⟨Nat.le_of_ble_eq_true rfl, Nat.le_of_ble_eq_true rfl⟩ (fun x h' hx hle => ?_)
  obtain ⟨rfl, rfl⟩ := hx
  refine V_astore 7 dX7_event_5 rfl (by decide) ?_
  refine V_aload 9 dX7_event_7 rfl rfl ?_
  refine V_ifnull 33 12 dX7_event_9 rfl rfl (fun c_9 => ?_) (fun a_9 c_9 => ?_)
  · skip
    cases c_9
  · skip
    cases c_9
    refine V_iload 14 dX7_event_12 rfl rfl ?_
    refine V_cS1i 17 (cr_ok hr) cs_X7_75 dX7_event_14 rfl ⟨Nat.le_of_ble_eq_true rfl, Nat.le_of_ble_eq_true rfl⟩ (Nat.le_of_ble_eq_true rfl) ⟨Nat.le_of_ble_eq_true rfl, Nat.le_of_ble_eq_true rfl⟩ (fun x h' hx hle => ?_)
    obtain ⟨rfl, rfl⟩ := hx
    refine V_if_eq 33 20 dX7_event_17 rfl rfl (fun c_17 => ?_) (fun c_17 => ?_)
    · skip
      exfalso; grind
    · skip
      refine V_iload 22 dX7_event_20 rfl rfl ?_
      refine V_cS1i 25 (cu_ok hu) cs_X7_79 dX7_event_22 rfl ⟨Nat.le_of_ble_eq_true rfl, Nat.le_of_ble_eq_true rfl⟩ (Nat.le_of_ble_eq_true rfl) ⟨Nat.le_of_ble_eq_true rfl, Nat.le_of_ble_eq_true rfl⟩ (fun x h' hx hle => ?_)
      obtain ⟨rfl, rfl⟩ := hx
      refine V_if_eq 33 28 dX7_event_25 rfl rfl (fun c_25 => ?_) (fun c_25 => ?_)
      · skip
        exfalso; grind
      · skip
        refine V_iload 30 dX7_event_28 rfl rfl ?_
        refine V_if_ge 36 33 dX7_event_30 rfl rfl (fun c_30 => ?_) (fun c_30 => ?_)
        · skip
          refine V_iload 38 dX7_event_36 rfl rfl ?_
          refine V_aload_n 39 dX7_event_38 rfl rfl ?_
          refine V_geti 42 7 5 fl_X7_65 dX7_event_39 rfl rfl (by decide) rfl (by decide) ?_
          refine V_icmp_le 48 45 dX7_event_42 rfl rfl (fun c_42 => ?_) (fun c_42 => ?_)
          · skip
            refine V_aload_n 49 dX7_event_48 rfl rfl ?_
            refine V_geti 52 7 5 fl_X7_65 dX7_event_49 rfl rfl (by decide) rfl (by decide) ?_
            refine V_iload 54 dX7_event_52 rfl rfl ?_
            refine V_isub 55 dX7_event_54 rfl ?_
            refine V_sipush (v := 500) 58 dX7_event_55 rfl (by decide) ?_
            refine V_icmp_le 64 61 dX7_event_58 rfl rfl (fun c_58 => ?_) (fun c_58 => ?_)
            · skip
              refine V_aload_n 65 dX7_event_64 rfl rfl ?_
              refine V_getR 68 7 4 fl_X7_36 dX7_event_65 rfl rfl (by decide) (Or.inl ⟨_, rfl⟩) (by decide) (sh_7_4 hS) ?_
              refine V_aload 70 dX7_event_68 rfl rfl ?_
              refine V_getR 73 0 1 fl_X7_51 dX7_event_70 rfl rfl (by decide) (Or.inl ⟨_, rfl⟩) (by decide) w2 ?_
              refine V_getiV 76 6 0 fl_X7_55 dX7_event_73 rfl rfl (by decide) rfl (by decide) (hN _ w1) ?_
              refine V_lload_n 77 dX7_event_76 rfl rfl ?_
              refine V_cV2i 80 (ct_X4_knows hS ek (Nat.le_refl _)) cs_X7_82 rfl rfl (by decide) dX7_event_77 rfl ⟨Nat.le_of_ble_eq_true rfl, Nat.le_of_ble_eq_true rfl⟩ (Nat.le_of_ble_eq_true rfl) ⟨Nat.le_of_ble_eq_true rfl, Nat.le_of_ble_eq_true rfl⟩ (fun x h' hx hle => ?_)
              obtain ⟨hx, rfl⟩ := hx
              refine V_if_eq 86 83 dX7_event_80 rfl rfl (fun c_80 => ?_) (fun c_80 => ?_)
              · skip
                refine V_aload_n 87 dX7_event_86 rfl rfl ?_
                refine V_getR 90 7 4 fl_X7_36 dX7_event_87 rfl rfl (by decide) (Or.inl ⟨_, rfl⟩) (by decide) (sh_7_4 hS) ?_
                refine V_aload 92 dX7_event_90 rfl rfl ?_
                refine V_getR 95 0 1 fl_X7_51 dX7_event_92 rfl rfl (by decide) (Or.inl ⟨_, rfl⟩) (by decide) w2 ?_
                refine V_getiV 98 6 0 fl_X7_55 dX7_event_95 rfl rfl (by decide) rfl (by decide) (hN _ w1) ?_
                refine V_lload_n 99 dX7_event_98 rfl rfl ?_
                refine V_iload 101 dX7_event_99 rfl rfl ?_
                refine V_cV3i 104 (ct_X4_learn hS ek (Nat.le_refl _)) cs_X7_86 rfl rfl (by decide) dX7_event_101 rfl ⟨Nat.le_of_ble_eq_true rfl, Nat.le_of_ble_eq_true rfl⟩ (Nat.le_of_ble_eq_true rfl) ⟨Nat.le_of_ble_eq_true rfl, Nat.le_of_ble_eq_true rfl⟩ (fun x h' hx hle => ?_)
                obtain ⟨-, rfl, rfl⟩ : _ ∧ x = 0 ∧ h' = _ := by
                  rcases hx with q | ⟨q, -⟩
                  · exact q
                  · omega
                refine V_if_ne 110 107 dX7_event_104 rfl rfl (fun c_104 => ?_) (fun c_104 => ?_)
                · skip
                  exact absurd rfl c_104
                · skip
                  refine V_bipush (v := (-3)) 109 dX7_event_107 rfl (by decide) ?_
                  refine V_iret dX7_event_109 rfl rfl ⟨_, rfl, ?_⟩ (by first | exact Nat.le_refl _ | decide | omega) (by first | exact Nat.le_refl _ | decide | omega)
                  exact ⟨rfl, rfl⟩
              · skip
                rcases hx with ⟨q, -⟩ | ⟨-, rfl⟩; exact (hk q).elim; exact absurd rfl c_80
            · skip
              grind
          · skip
            grind
        · skip
          exfalso; grind
theorem ct_X7_event_ok {nk p : Nat} {f : Int32 → qH → Prop} (hS : SHC h NA NH NI) (e : qg_i h 1 0 6 = nI NA) (hNA : NA ≤ 24) (ha : a < NA) (hr : r < 4) (hu : 1 ≤ u ∧ u ≤ 1000000) (hmi : 0 ≤ mi) (hm : mi ≤ qg_i h 1 0 5) (hl : qg_i h 1 0 5 - mi ≤ 500) (hW : WW h NA) (hN : WN h) (ek : qg_i h 6 0 3 = nI nk) (hnk : nk < 300) (hk : ¬ kn (kl h 7 8 9 nk) key (nI (ow h a))) (ep : mi / 1000 = nI p) (M : qM yX7_countUnits cX7_countUnits 6 ((some .int)) 4 99 0 0 [.inr (.inr (some (1, 0))), .inr (.inr (some (22, a))), .inl (nI r), .inl u, .inl (nI p)] (f_put h nk key (nI (ow h a)) mi) (pI f)) : qM yX7_event cX7_event 8 ((some .int)) 5 124 0 0 [.inr (.inr (some (1, 0))), .inr (.inl key), .inl (nI a), .inl (nI r), .inl u, .inl mi] h (pI f) := by
  obtain ⟨w1, w2⟩ := hW.o2 ha
  refine qM.of (plainFor_of_name (by decide)) (Nat.le_of_ble_eq_true rfl) ?_
  refine V_aload_n 1 dX7_event_0 rfl rfl ?_
  refine V_iload_n 2 dX7_event_1 rfl rfl ?_
  refine V_cV1r 5 (acc_ok hS e hNA ha) cs_X7_47 rfl rfl (by decide) dX7_event_2 rfl ⟨Nat.le_of_ble_eq_true rfl, Nat.le_of_ble_eq_true rfl⟩ (Nat.le_of_ble_eq_true rfl) ⟨Nat.le_of_ble_eq_true rfl, Nat.le_of_ble_eq_true rfl⟩ (fun x h' hx hle => ?_)
  obtain ⟨rfl, rfl⟩ := hx
  refine V_astore 7 dX7_event_5 rfl (by decide) ?_
  refine V_aload 9 dX7_event_7 rfl rfl ?_
  refine V_ifnull 33 12 dX7_event_9 rfl rfl (fun c_9 => ?_) (fun a_9 c_9 => ?_)
  · skip
    cases c_9
  · skip
    cases c_9
    refine V_iload 14 dX7_event_12 rfl rfl ?_
    refine V_cS1i 17 (cr_ok hr) cs_X7_75 dX7_event_14 rfl ⟨Nat.le_of_ble_eq_true rfl, Nat.le_of_ble_eq_true rfl⟩ (Nat.le_of_ble_eq_true rfl) ⟨Nat.le_of_ble_eq_true rfl, Nat.le_of_ble_eq_true rfl⟩ (fun x h' hx hle => ?_)
    obtain ⟨rfl, rfl⟩ := hx
    refine V_if_eq 33 20 dX7_event_17 rfl rfl (fun c_17 => ?_) (fun c_17 => ?_)
    · skip
      exfalso; grind
    · skip
      refine V_iload 22 dX7_event_20 rfl rfl ?_
      refine V_cS1i 25 (cu_ok hu) cs_X7_79 dX7_event_22 rfl ⟨Nat.le_of_ble_eq_true rfl, Nat.le_of_ble_eq_true rfl⟩ (Nat.le_of_ble_eq_true rfl) ⟨Nat.le_of_ble_eq_true rfl, Nat.le_of_ble_eq_true rfl⟩ (fun x h' hx hle => ?_)
      obtain ⟨rfl, rfl⟩ := hx
      refine V_if_eq 33 28 dX7_event_25 rfl rfl (fun c_25 => ?_) (fun c_25 => ?_)
      · skip
        exfalso; grind
      · skip
        refine V_iload 30 dX7_event_28 rfl rfl ?_
        refine V_if_ge 36 33 dX7_event_30 rfl rfl (fun c_30 => ?_) (fun c_30 => ?_)
        · skip
          refine V_iload 38 dX7_event_36 rfl rfl ?_
          refine V_aload_n 39 dX7_event_38 rfl rfl ?_
          refine V_geti 42 7 5 fl_X7_65 dX7_event_39 rfl rfl (by decide) rfl (by decide) ?_
          refine V_icmp_le 48 45 dX7_event_42 rfl rfl (fun c_42 => ?_) (fun c_42 => ?_)
          · skip
            refine V_aload_n 49 dX7_event_48 rfl rfl ?_
            refine V_geti 52 7 5 fl_X7_65 dX7_event_49 rfl rfl (by decide) rfl (by decide) ?_
            refine V_iload 54 dX7_event_52 rfl rfl ?_
            refine V_isub 55 dX7_event_54 rfl ?_
            refine V_sipush (v := 500) 58 dX7_event_55 rfl (by decide) ?_
            refine V_icmp_le 64 61 dX7_event_58 rfl rfl (fun c_58 => ?_) (fun c_58 => ?_)
            · skip
              refine V_aload_n 65 dX7_event_64 rfl rfl ?_
              refine V_getR 68 7 4 fl_X7_36 dX7_event_65 rfl rfl (by decide) (Or.inl ⟨_, rfl⟩) (by decide) (sh_7_4 hS) ?_
              refine V_aload 70 dX7_event_68 rfl rfl ?_
              refine V_getR 73 0 1 fl_X7_51 dX7_event_70 rfl rfl (by decide) (Or.inl ⟨_, rfl⟩) (by decide) w2 ?_
              refine V_getiV 76 6 0 fl_X7_55 dX7_event_73 rfl rfl (by decide) rfl (by decide) (hN _ w1) ?_
              refine V_lload_n 77 dX7_event_76 rfl rfl ?_
              refine V_cV2i 80 (ct_X4_knows hS ek (by omega)) cs_X7_82 rfl rfl (by decide) dX7_event_77 rfl ⟨Nat.le_of_ble_eq_true rfl, Nat.le_of_ble_eq_true rfl⟩ (Nat.le_of_ble_eq_true rfl) ⟨Nat.le_of_ble_eq_true rfl, Nat.le_of_ble_eq_true rfl⟩ (fun x h' hx hle => ?_)
              obtain ⟨hx, rfl⟩ := hx
              refine V_if_eq 86 83 dX7_event_80 rfl rfl (fun c_80 => ?_) (fun c_80 => ?_)
              · skip
                refine V_aload_n 87 dX7_event_86 rfl rfl ?_
                refine V_getR 90 7 4 fl_X7_36 dX7_event_87 rfl rfl (by decide) (Or.inl ⟨_, rfl⟩) (by decide) (sh_7_4 hS) ?_
                refine V_aload 92 dX7_event_90 rfl rfl ?_
                refine V_getR 95 0 1 fl_X7_51 dX7_event_92 rfl rfl (by decide) (Or.inl ⟨_, rfl⟩) (by decide) w2 ?_
                refine V_getiV 98 6 0 fl_X7_55 dX7_event_95 rfl rfl (by decide) rfl (by decide) (hN _ w1) ?_
                refine V_lload_n 99 dX7_event_98 rfl rfl ?_
                refine V_iload 101 dX7_event_99 rfl rfl ?_
                refine V_cV3i 104 (ct_X4_learn hS ek (by omega)) cs_X7_86 rfl rfl (by decide) dX7_event_101 rfl ⟨Nat.le_of_ble_eq_true rfl, Nat.le_of_ble_eq_true rfl⟩ (Nat.le_of_ble_eq_true rfl) ⟨Nat.le_of_ble_eq_true rfl, Nat.le_of_ble_eq_true rfl⟩ (fun x h' hx hle => ?_)
                obtain ⟨-, rfl, rfl⟩ : _ ∧ x = 1 ∧ h' = _ := by
                  rcases hx with ⟨q, -⟩ | q
                  · omega
                  · exact q
                refine V_if_ne 110 107 dX7_event_104 rfl rfl (fun c_104 => ?_) (fun c_104 => ?_)
                · skip
                  refine V_aload_n 111 dX7_event_110 rfl rfl ?_
                  refine V_aload 113 dX7_event_111 rfl rfl ?_
                  refine V_iload 115 dX7_event_113 rfl rfl ?_
                  refine V_iload 117 dX7_event_115 rfl rfl ?_
                  refine V_iload 119 dX7_event_117 rfl rfl ?_
                  refine V_sipush (v := 1000) 122 dX7_event_119 rfl (by decide) ?_
                  refine V_idiv 123 dX7_event_122 rfl (by decide) ?_
                  rw [ep]
                  refine V_cV4i 126 M cs_X7_90 rfl rfl (by decide) dX7_event_123 rfl ⟨Nat.le_of_ble_eq_true rfl, Nat.le_of_ble_eq_true rfl⟩ (Nat.le_of_ble_eq_true rfl) ⟨Nat.le_of_ble_eq_true rfl, Nat.le_of_ble_eq_true rfl⟩ (fun x h' hx hle => ?_)
                  skip
                  refine V_iret dX7_event_126 rfl rfl ⟨_, rfl, ?_⟩ (by first | exact Nat.le_refl _ | decide | omega) (by first | exact Nat.le_refl _ | decide | omega)
                  exact hx
                · skip
                  exact absurd c_104 (by decide)
              · skip
                rcases hx with ⟨q, -⟩ | ⟨-, rfl⟩; exact (hk q).elim; exact absurd rfl c_80
            · skip
              grind
          · skip
            grind
        · skip
          exfalso; grind
end EV
/-- a hold ends -/
def f_eh (h : qH) (j a r : Nat) : qH := ahF (qs_i (qs_i h 27 j 4 0) 1 0 8 (qg_i h 1 0 8 - 1)) (ly (par h) a) r (-(qg_i h 27 j 2))
theorem ct_X7_endHold {j a r : Nat} (hS : SHC h NA NH NI) (hNA : NA ≤ 24) (hO : WO h NA) (ha : a < NA) (hr : r < 4) (eu : qg_r h 27 j 0 = some (22, a)) (er : qg_i h 27 j 1 = nI r) : qM yX7_endHold cX7_endHold 2 none 1 23 0 0 [.inr (.inr (some (1, 0))), .inr (.inr (some (27, j)))] h (pV fun h' => h' = f_eh h j a r) := by
  refine qM.of (plainFor_of_name (by decide)) (Nat.le_of_ble_eq_true rfl) ?_
  refine V_aload_n 1 dX7_endHold_0 rfl rfl ?_
  refine V_iconst (v := 0) 2 dX7_endHold_1 rfl (by decide) ?_
  refine V_putz 5 2 4 fl_X7_239 dX7_endHold_2 rfl rfl (by decide) rfl (by decide) (Or.inl rfl) rfl ?_
  refine V_aload_n 6 dX7_endHold_5 rfl rfl ?_
  refine V_dup 7 dX7_endHold_6 rfl ?_
  refine V_getiV 10 7 8 fl_X7_99 dX7_endHold_7 rfl rfl (by decide) rfl (by decide) (show _ = qg_i h 1 0 8 from rfl) ?_
  refine V_iconst (v := 1) 11 dX7_endHold_10 rfl (by decide) ?_
  refine V_isub 12 dX7_endHold_11 rfl ?_
  refine V_puti 15 7 8 fl_X7_99 dX7_endHold_12 rfl rfl (by decide) rfl (by decide) (Or.inl rfl) ?_
  refine V_aload_n 16 dX7_endHold_15 rfl rfl ?_
  refine V_getR 19 2 0 fl_X7_123 dX7_endHold_16 rfl rfl (by decide) (Or.inl ⟨_, rfl⟩) (by decide) eu ?_
  refine V_aload_n 20 dX7_endHold_19 rfl rfl ?_
  refine V_getiV 23 2 1 fl_X7_128 dX7_endHold_20 rfl rfl (by decide) rfl (by decide) (show _ = nI r by simp [qii, er]) ?_
  refine V_aload_n 24 dX7_endHold_23 rfl rfl ?_
  refine V_getiV 27 2 2 fl_X7_120 dX7_endHold_24 rfl rfl (by decide) rfl (by decide) (show _ = qg_i h 27 j 2 by simp [qii]) ?_
  refine V_ineg 28 dX7_endHold_27 rfl ?_
  refine V_cV2v 31 (ct_X0_addHeld (NA := NA) (NH := NH) (NI := NI) hS hO hNA ha hr) cs_X7_112 rfl rfl (by decide) dX7_endHold_28 rfl ⟨Nat.le_of_ble_eq_true rfl, Nat.le_of_ble_eq_true rfl⟩ (Nat.le_of_ble_eq_true rfl) ⟨Nat.le_of_ble_eq_true rfl, Nat.le_of_ble_eq_true rfl⟩ (fun h' hx hle => ?_)
  obtain rfl := hx
  refine V_vret dX7_endHold_31 rfl ⟨rfl, ?_⟩ (by first | exact Nat.le_refl _ | decide | omega) (by first | exact Nat.le_refl _ | decide | omega)
  rfl
theorem ct_X7_drop_ok {j a r : Nat} (hS : SHC h NA NH NI) (hNA : NA ≤ 24) (hO : WO h NA) (e : qg_i h 1 0 7 = nI NH) (hNH : NH ≤ 200) (hj : j < NH) (ho : ¬ qg_i h 27 j 4 = 0) (ha : a < NA) (hr : r < 4) (eu : qg_r h 27 j 0 = some (22, a)) (er : qg_i h 27 j 1 = nI r) : qM yX7_drop cX7_drop 3 ((some .int)) 2 44 0 0 [.inr (.inr (some (1, 0))), .inl (nI j)] h (pI fun x h' => x = qg_i h 27 j 2 ∧ h' = f_eh h j a r) := by
  refine qM.of (plainFor_of_name (by decide)) (Nat.le_of_ble_eq_true rfl) ?_
  refine V_aload_n 1 dX7_drop_0 rfl rfl ?_
  refine V_iload_n 2 dX7_drop_1 rfl rfl ?_
  refine V_cV1r 5 (opn_ok hS e hNH hj ho) cs_X7_116 rfl rfl (by decide) dX7_drop_2 rfl ⟨Nat.le_of_ble_eq_true rfl, Nat.le_of_ble_eq_true rfl⟩ (Nat.le_of_ble_eq_true rfl) ⟨Nat.le_of_ble_eq_true rfl, Nat.le_of_ble_eq_true rfl⟩ (fun x h' hx hle => ?_)
  obtain ⟨rfl, rfl⟩ := hx
  refine V_astore_n 6 dX7_drop_5 rfl (by decide) ?_
  refine V_aload_n 7 dX7_drop_6 rfl rfl ?_
  refine V_ifnonnull 13 10 dX7_drop_7 rfl rfl (fun c_7 => ?_) (fun a_7 c_7 => ?_)
  · skip
    cases c_7
  · skip
    cases c_7
    refine V_aload_n 14 dX7_drop_13 rfl rfl ?_
    refine V_aload_n 15 dX7_drop_14 rfl rfl ?_
    refine V_cV1v 18 (ct_X7_endHold hS hNA hO ha hr eu er) cs_X7_135 rfl rfl (by decide) dX7_drop_15 rfl ⟨Nat.le_of_ble_eq_true rfl, Nat.le_of_ble_eq_true rfl⟩ (Nat.le_of_ble_eq_true rfl) ⟨Nat.le_of_ble_eq_true rfl, Nat.le_of_ble_eq_true rfl⟩ (fun h' hx hle => ?_)
    obtain rfl := hx
    refine V_aload_n 19 dX7_drop_18 rfl rfl ?_
    refine V_geti 22 2 2 fl_X7_120 dX7_drop_19 rfl rfl (by decide) rfl (by decide) ?_
    refine V_iret dX7_drop_22 rfl rfl ⟨_, rfl, ?_⟩ (by first | exact Nat.le_refl _ | decide | omega) (by first | exact Nat.le_refl _ | decide | omega)
    exact ⟨by simp [f_eh, ahF, qg_i, qs_i], rfl⟩
theorem ct_X7_drop_bad {a : Int32} (hS : SHC h NA NH NI) (e : qg_i h 1 0 7 = nI NH) (hNH : NH ≤ 200) (hbad : ¬ ∃ j, j < NH ∧ a = nI j ∧ ¬ qg_i h 27 j 4 = 0) : qM yX7_drop cX7_drop 3 ((some .int)) 2 44 0 0 [.inr (.inr (some (1, 0))), .inl a] h (pI fun x h' => x = -2 ∧ h' = h) := by
  have M : qM yX7_openHoldAt cX7_openHoldAt 3 ((some (.object "QuotaMeter$Hold"))) 1 21 0 0 [.inr (.inr (some (1, 0))), .inl a] h (pR fun x h' => x = none ∧ h' = h) := by
    rcases ix_c (x := a) (n := NH) (by omega) with z | ⟨b, hb, rfl⟩
    · exact opn_no e z
    · exact opn_shut hS e hNH hb (Classical.byContradiction fun q => hbad ⟨b, hb, rfl, q⟩)
  refine qM.of (plainFor_of_name (by decide)) (Nat.le_of_ble_eq_true rfl) ?_
  refine V_aload_n 1 dX7_drop_0 rfl rfl ?_
  refine V_iload_n 2 dX7_drop_1 rfl rfl ?_
  refine V_cV1r 5 M cs_X7_116 rfl rfl (by decide) dX7_drop_2 rfl ⟨Nat.le_of_ble_eq_true rfl, Nat.le_of_ble_eq_true rfl⟩ (Nat.le_of_ble_eq_true rfl) ⟨Nat.le_of_ble_eq_true rfl, Nat.le_of_ble_eq_true rfl⟩ (fun x h' hx hle => ?_)
  obtain ⟨rfl, rfl⟩ := hx
  refine V_astore_n 6 dX7_drop_5 rfl (by decide) ?_
  refine V_aload_n 7 dX7_drop_6 rfl rfl ?_
  refine V_ifnonnull 13 10 dX7_drop_7 rfl rfl (fun c_7 => ?_) (fun a_7 c_7 => ?_)
  · skip
    refine V_bipush (v := (-2)) 12 dX7_drop_10 rfl (by decide) ?_
    refine V_iret dX7_drop_12 rfl rfl ⟨_, rfl, ?_⟩ (by first | exact Nat.le_refl _ | decide | omega) (by first | exact Nat.le_refl _ | decide | omega)
    exact ⟨rfl, rfl⟩
  · skip
    cases c_7
theorem ct_X7_settle_bad {a u : Int32} {key : Int64} (hS : SHC h NA NH NI) (e : qg_i h 1 0 7 = nI NH) (hNH : NH ≤ 200) (hbad : ¬ ∃ j, j < NH ∧ a = nI j ∧ ¬ qg_i h 27 j 4 = 0 ∧ 0 ≤ u ∧ u ≤ qg_i h 27 j 2) : qM yX7_settle cX7_settle 7 ((some .int)) 6 151 0 0 [.inr (.inr (some (1, 0))), .inl a, .inl u, .inr (.inl key)] h (pI fun x h' => x = -2 ∧ h' = h) := by
  by_cases hb : ∃ j, j < NH ∧ a = nI j ∧ ¬ qg_i h 27 j 4 = 0
  · obtain ⟨j, hj, rfl, ho⟩ := hb
    have hb2 : ¬ (0 ≤ u ∧ u ≤ qg_i h 27 j 2) := fun q => hbad ⟨j, hj, rfl, ho, q⟩
    refine qM.of (plainFor_of_name (by decide)) (Nat.le_of_ble_eq_true rfl) ?_
    refine V_aload_n 1 dX7_settle_0 rfl rfl ?_
    refine V_iload_n 2 dX7_settle_1 rfl rfl ?_
    refine V_cV1r 5 (opn_ok hS e hNH hj ho) cs_X7_116 rfl rfl (by decide) dX7_settle_2 rfl ⟨Nat.le_of_ble_eq_true rfl, Nat.le_of_ble_eq_true rfl⟩ (Nat.le_of_ble_eq_true rfl) ⟨Nat.le_of_ble_eq_true rfl, Nat.le_of_ble_eq_true rfl⟩ (fun x h' hx hle => ?_)
    obtain ⟨rfl, rfl⟩ := hx
    refine V_astore 7 dX7_settle_5 rfl (by decide) ?_
    refine V_aload 9 dX7_settle_7 rfl rfl ?_
    refine V_ifnull 25 12 dX7_settle_9 rfl rfl (fun c_9 => ?_) (fun a_9 c_9 => ?_)
    · skip
      cases c_9
    · skip
      cases c_9
      refine V_iload_n 13 dX7_settle_12 rfl rfl ?_
      refine V_if_lt 25 16 dX7_settle_13 rfl rfl (fun c_13 => ?_) (fun c_13 => ?_)
      · skip
        refine V_bipush (v := (-2)) 27 dX7_settle_25 rfl (by decide) ?_
        refine V_iret dX7_settle_27 rfl rfl ⟨_, rfl, ?_⟩ (by first | exact Nat.le_refl _ | decide | omega) (by first | exact Nat.le_refl _ | decide | omega)
        exact ⟨rfl, rfl⟩
      · skip
        refine V_iload_n 17 dX7_settle_16 rfl rfl ?_
        refine V_aload 19 dX7_settle_17 rfl rfl ?_
        refine V_geti 22 2 2 fl_X7_120 dX7_settle_19 rfl rfl (by decide) rfl (by decide) ?_
        refine V_icmp_le 28 25 dX7_settle_22 rfl rfl (fun c_22 => ?_) (fun c_22 => ?_)
        · skip
          exfalso; grind
        · skip
          refine V_bipush (v := (-2)) 27 dX7_settle_25 rfl (by decide) ?_
          refine V_iret dX7_settle_27 rfl rfl ⟨_, rfl, ?_⟩ (by first | exact Nat.le_refl _ | decide | omega) (by first | exact Nat.le_refl _ | decide | omega)
          exact ⟨rfl, rfl⟩
  · have M : qM yX7_openHoldAt cX7_openHoldAt 3 ((some (.object "QuotaMeter$Hold"))) 1 21 0 0 [.inr (.inr (some (1, 0))), .inl a] h (pR fun x h' => x = none ∧ h' = h) := by
      rcases ix_c (x := a) (n := NH) (by omega) with z | ⟨b, hb', rfl⟩
      · exact opn_no e z
      · exact opn_shut hS e hNH hb' (Classical.byContradiction fun q => hb ⟨b, hb', rfl, q⟩)
    refine qM.of (plainFor_of_name (by decide)) (Nat.le_of_ble_eq_true rfl) ?_
    refine V_aload_n 1 dX7_settle_0 rfl rfl ?_
    refine V_iload_n 2 dX7_settle_1 rfl rfl ?_
    refine V_cV1r 5 M cs_X7_116 rfl rfl (by decide) dX7_settle_2 rfl ⟨Nat.le_of_ble_eq_true rfl, Nat.le_of_ble_eq_true rfl⟩ (Nat.le_of_ble_eq_true rfl) ⟨Nat.le_of_ble_eq_true rfl, Nat.le_of_ble_eq_true rfl⟩ (fun x h' hx hle => ?_)
    obtain ⟨rfl, rfl⟩ := hx
    refine V_astore 7 dX7_settle_5 rfl (by decide) ?_
    refine V_aload 9 dX7_settle_7 rfl rfl ?_
    refine V_ifnull 25 12 dX7_settle_9 rfl rfl (fun c_9 => ?_) (fun a_9 c_9 => ?_)
    · skip
      refine V_bipush (v := (-2)) 27 dX7_settle_25 rfl (by decide) ?_
      refine V_iret dX7_settle_27 rfl rfl ⟨_, rfl, ?_⟩ (by first | exact Nat.le_refl _ | decide | omega) (by first | exact Nat.le_refl _ | decide | omega)
      exact ⟨rfl, rfl⟩
    · skip
      cases c_9
theorem ct_X7_settle_zero {j a r : Nat} {key : Int64} (hS : SHC h NA NH NI) (hNA : NA ≤ 24) (hO : WO h NA) (e : qg_i h 1 0 7 = nI NH) (hNH : NH ≤ 200) (hj : j < NH) (ho : ¬ qg_i h 27 j 4 = 0) (ha : a < NA) (hr : r < 4) (eu : qg_r h 27 j 0 = some (22, a)) (er : qg_i h 27 j 1 = nI r) (hu : 0 ≤ qg_i h 27 j 2) : qM yX7_settle cX7_settle 7 ((some .int)) 6 151 0 0 [.inr (.inr (some (1, 0))), .inl (nI j), .inl 0, .inr (.inl key)] h (pI fun x h' => x = 0 ∧ h' = f_eh h j a r) := by
  refine qM.of (plainFor_of_name (by decide)) (Nat.le_of_ble_eq_true rfl) ?_
  refine V_aload_n 1 dX7_settle_0 rfl rfl ?_
  refine V_iload_n 2 dX7_settle_1 rfl rfl ?_
  refine V_cV1r 5 (opn_ok hS e hNH hj ho) cs_X7_116 rfl rfl (by decide) dX7_settle_2 rfl ⟨Nat.le_of_ble_eq_true rfl, Nat.le_of_ble_eq_true rfl⟩ (Nat.le_of_ble_eq_true rfl) ⟨Nat.le_of_ble_eq_true rfl, Nat.le_of_ble_eq_true rfl⟩ (fun x h' hx hle => ?_)
  obtain ⟨rfl, rfl⟩ := hx
  refine V_astore 7 dX7_settle_5 rfl (by decide) ?_
  refine V_aload 9 dX7_settle_7 rfl rfl ?_
  refine V_ifnull 25 12 dX7_settle_9 rfl rfl (fun c_9 => ?_) (fun a_9 c_9 => ?_)
  · skip
    cases c_9
  · skip
    cases c_9
    refine V_iload_n 13 dX7_settle_12 rfl rfl ?_
    refine V_if_lt 25 16 dX7_settle_13 rfl rfl (fun c_13 => ?_) (fun c_13 => ?_)
    · skip
      exact absurd c_13 (by decide)
    · skip
      refine V_iload_n 17 dX7_settle_16 rfl rfl ?_
      refine V_aload 19 dX7_settle_17 rfl rfl ?_
      refine V_geti 22 2 2 fl_X7_120 dX7_settle_19 rfl rfl (by decide) rfl (by decide) ?_
      refine V_icmp_le 28 25 dX7_settle_22 rfl rfl (fun c_22 => ?_) (fun c_22 => ?_)
      · skip
        refine V_iconst (v := 0) 29 dX7_settle_28 rfl (by decide) ?_
        refine V_istore 31 dX7_settle_29 rfl (by decide) ?_
        refine V_iload_n 32 dX7_settle_31 rfl rfl ?_
        refine V_if_le 60 35 dX7_settle_32 rfl rfl (fun c_32 => ?_) (fun c_32 => ?_)
        · skip
          refine V_iload 62 dX7_settle_60 rfl rfl ?_
          refine V_if_lt 71 65 dX7_settle_62 rfl rfl (fun c_62 => ?_) (fun c_62 => ?_)
          · skip
            exact absurd c_62 (by decide)
          · skip
            refine V_aload_n 66 dX7_settle_65 rfl rfl ?_
            refine V_aload 68 dX7_settle_66 rfl rfl ?_
            refine V_cV1v 71 (ct_X7_endHold hS hNA hO ha hr eu er) cs_X7_135 rfl rfl (by decide) dX7_settle_68 rfl ⟨Nat.le_of_ble_eq_true rfl, Nat.le_of_ble_eq_true rfl⟩ (Nat.le_of_ble_eq_true rfl) ⟨Nat.le_of_ble_eq_true rfl, Nat.le_of_ble_eq_true rfl⟩ (fun h' hx hle => ?_)
            obtain rfl := hx
            refine V_iload 73 dX7_settle_71 rfl rfl ?_
            refine V_iret dX7_settle_73 rfl rfl ⟨_, rfl, ?_⟩ (by first | exact Nat.le_refl _ | decide | omega) (by first | exact Nat.le_refl _ | decide | omega)
            exact ⟨rfl, rfl⟩
        · skip
          exact absurd (by decide) c_32
      · skip
        exact absurd hu c_22
theorem ct_X7_settle_ok {j a r : Nat} {u : Int32} {key : Int64} {f : Int32 → qH → Prop} (hS : SHC h NA NH NI) (hNA : NA ≤ 24) (e : qg_i h 1 0 7 = nI NH) (hNH : NH ≤ 200) (hj : j < NH) (ho : ¬ qg_i h 27 j 4 = 0) (ha : a < NA) (hr : r < 4) (eu : qg_r h 27 j 0 = some (22, a)) (er : qg_i h 27 j 1 = nI r) (en : qg_i h 22 a 0 = nI a) (hu0 : 0 < u) (hu : u ≤ qg_i h 27 j 2) (M : qM yX7_event cX7_event 8 ((some .int)) 5 124 0 0 [.inr (.inr (some (1, 0))), .inr (.inl key), .inl (nI a), .inl (nI r), .inl u, .inl (qg_i h 1 0 5)] h (pI f)) (hf : ∀ x g, f x g → 0 ≤ x → SHC g NA NH NI ∧ WO g NA ∧ qg_r g 27 j 0 = some (22, a) ∧ qg_i g 27 j 1 = nI r) : qM yX7_settle cX7_settle 7 ((some .int)) 6 151 0 0 [.inr (.inr (some (1, 0))), .inl (nI j), .inl u, .inr (.inl key)] h (pI fun x h' => ∃ g, f x g ∧ h' = (if x < 0 then g else f_eh g j a r)) := by
  refine qM.of (plainFor_of_name (by decide)) (Nat.le_of_ble_eq_true rfl) ?_
  refine V_aload_n 1 dX7_settle_0 rfl rfl ?_
  refine V_iload_n 2 dX7_settle_1 rfl rfl ?_
  refine V_cV1r 5 (opn_ok hS e hNH hj ho) cs_X7_116 rfl rfl (by decide) dX7_settle_2 rfl ⟨Nat.le_of_ble_eq_true rfl, Nat.le_of_ble_eq_true rfl⟩ (Nat.le_of_ble_eq_true rfl) ⟨Nat.le_of_ble_eq_true rfl, Nat.le_of_ble_eq_true rfl⟩ (fun x h' hx hle => ?_)
  obtain ⟨rfl, rfl⟩ := hx
  refine V_astore 7 dX7_settle_5 rfl (by decide) ?_
  refine V_aload 9 dX7_settle_7 rfl rfl ?_
  refine V_ifnull 25 12 dX7_settle_9 rfl rfl (fun c_9 => ?_) (fun a_9 c_9 => ?_)
  · skip
    cases c_9
  · skip
    cases c_9
    refine V_iload_n 13 dX7_settle_12 rfl rfl ?_
    refine V_if_lt 25 16 dX7_settle_13 rfl rfl (fun c_13 => ?_) (fun c_13 => ?_)
    · skip
      grind
    · skip
      refine V_iload_n 17 dX7_settle_16 rfl rfl ?_
      refine V_aload 19 dX7_settle_17 rfl rfl ?_
      refine V_geti 22 2 2 fl_X7_120 dX7_settle_19 rfl rfl (by decide) rfl (by decide) ?_
      refine V_icmp_le 28 25 dX7_settle_22 rfl rfl (fun c_22 => ?_) (fun c_22 => ?_)
      · skip
        refine V_iconst (v := 0) 29 dX7_settle_28 rfl (by decide) ?_
        refine V_istore 31 dX7_settle_29 rfl (by decide) ?_
        refine V_iload_n 32 dX7_settle_31 rfl rfl ?_
        refine V_if_le 60 35 dX7_settle_32 rfl rfl (fun c_32 => ?_) (fun c_32 => ?_)
        · skip
          grind
        · skip
          refine V_aload_n 36 dX7_settle_35 rfl rfl ?_
          refine V_lload_n 37 dX7_settle_36 rfl rfl ?_
          refine V_aload 39 dX7_settle_37 rfl rfl ?_
          refine V_getR 42 2 0 fl_X7_123 dX7_settle_39 rfl rfl (by decide) (Or.inl ⟨_, rfl⟩) (by decide) eu ?_
          refine V_getiV 45 0 0 fl_X7_127 dX7_settle_42 rfl rfl (by decide) rfl (by decide) en ?_
          refine V_aload 47 dX7_settle_45 rfl rfl ?_
          refine V_getiV 50 2 1 fl_X7_128 dX7_settle_47 rfl rfl (by decide) rfl (by decide) er ?_
          refine V_iload_n 51 dX7_settle_50 rfl rfl ?_
          refine V_aload_n 52 dX7_settle_51 rfl rfl ?_
          refine V_geti 55 7 5 fl_X7_65 dX7_settle_52 rfl rfl (by decide) rfl (by decide) ?_
          refine V_cV5i 58 M cs_X7_131 rfl rfl (by decide) dX7_settle_55 rfl ⟨Nat.le_of_ble_eq_true rfl, Nat.le_of_ble_eq_true rfl⟩ (Nat.le_of_ble_eq_true rfl) ⟨Nat.le_of_ble_eq_true rfl, Nat.le_of_ble_eq_true rfl⟩ (fun x h' hx hle => ?_)
          have hf := hf _ _ hx
          refine V_istore 60 dX7_settle_58 rfl (by decide) ?_
          refine V_iload 62 dX7_settle_60 rfl rfl ?_
          refine V_if_lt 71 65 dX7_settle_62 rfl rfl (fun c_62 => ?_) (fun c_62 => ?_)
          · skip
            refine V_iload 73 dX7_settle_71 rfl rfl ?_
            refine V_iret dX7_settle_73 rfl rfl ⟨_, rfl, ?_⟩ (by first | exact Nat.le_refl _ | decide | omega) (by first | exact Nat.le_refl _ | decide | omega)
            first
              | exact ⟨_, hx, by rw [if_pos (by grind)]⟩
              | exact ⟨_, by assumption, by rw [if_neg (by grind)]⟩
          · skip
            refine V_aload_n 66 dX7_settle_65 rfl rfl ?_
            refine V_aload 68 dX7_settle_66 rfl rfl ?_
            refine V_cV1v 71 (ct_X7_endHold (hf (by grind)).1 hNA (hf (by grind)).2.1 ha hr (hf (by grind)).2.2.1 (hf (by grind)).2.2.2) cs_X7_135 rfl rfl (by decide) dX7_settle_68 rfl ⟨Nat.le_of_ble_eq_true rfl, Nat.le_of_ble_eq_true rfl⟩ (Nat.le_of_ble_eq_true rfl) ⟨Nat.le_of_ble_eq_true rfl, Nat.le_of_ble_eq_true rfl⟩ (fun h' hx hle => ?_)
            rename_i hx0 _; obtain rfl := hx
            refine V_iload 73 dX7_settle_71 rfl rfl ?_
            refine V_iret dX7_settle_73 rfl rfl ⟨_, rfl, ?_⟩ (by first | exact Nat.le_refl _ | decide | omega) (by first | exact Nat.le_refl _ | decide | omega)
            first
              | exact ⟨_, hx, by rw [if_pos (by grind)]⟩
              | exact ⟨_, by assumption, by rw [if_neg (by grind)]⟩
      · skip
        exact absurd hu c_22
/-- old holds end -/
def hu_ (h : qH) (j : Nat) : Nat := match qg_r h 27 j 0 with
  | none => 0
  | some o => o.2
def hr_ (h : qH) (j : Nat) : Nat := (qg_i h 27 j 1).toNatClampNeg
def WHC (h : qH) (NA NH : Nat) : Prop := ∀ j, j < NH → hu_ h j < NA ∧ qg_r h 27 j 0 = some (22, hu_ h j) ∧ hr_ h j < 4 ∧ qg_i h 27 j 1 = nI (hr_ h j)
def f_old (h : qH) : Nat → qH
  | 0 => h
  | j + 1 => if ¬ qg_i h 27 j 4 = 0 ∧ 60 ≤ qg_i h 1 0 5 - qg_i h 27 j 3 then f_eh (f_old h j) j (hu_ h j) (hr_ h j) else f_old h j
theorem f_old_fr : ∀ j, (qg_n (f_old h j) = qg_n h ∧ qg_r (f_old h j) = qg_r h ∧ qg_l (f_old h j) = qg_l h) ∧ (∀ a, a ≠ 25 → a ≠ 27 → a ≠ 1 → qg_i (f_old h j) a = qg_i h a) ∧ (∀ i k, k ≠ 4 → qg_i (f_old h j) 27 i k = qg_i h 27 i k) ∧ (∀ i, j ≤ i → qg_i (f_old h j) 27 i 4 = qg_i h 27 i 4) ∧ (∀ k, k ≠ 8 → qg_i (f_old h j) 1 0 k = qg_i h 1 0 k)
  | 0 => ⟨⟨rfl, rfl, rfl⟩, fun _ _ _ _ => rfl, fun _ _ _ => rfl, fun _ _ => rfl, fun _ _ => rfl⟩
  | j + 1 => by
    obtain ⟨⟨a1, a2, a3⟩, b, c, d, e⟩ := f_old_fr j
    unfold f_old
    split
    · refine ⟨⟨a1, a2, a3⟩, fun a h1 h2 h3 => ?_, fun i k h1 => ?_, fun i h1 => ?_, fun k h1 => ?_⟩
      · rw [← b a h1 h2 h3]
        funext x y
        simp [f_eh, ahF, qg_i, qs_i, h1, h2, h3]
      · rw [← c i k h1]
        simp [f_eh, ahF, qg_i, qs_i, h1]
      · rw [← d i (by omega)]
        have : i ≠ j := by omega
        simp [f_eh, ahF, qg_i, qs_i, this]
      · rw [← e k h1]
        simp [f_eh, ahF, qg_i, qs_i, h1]
    · exact ⟨⟨a1, a2, a3⟩, b, c, fun i hi => d i (by omega), e⟩
theorem lp_X7_old (hS : SHC h NA NH NI) (hNA : NA ≤ 24) (hO : WO h NA) (e : qg_i h 1 0 7 = nI NH) (hNH : NH ≤ 200) (hH : WHC h NA NH) {n0 : Nat → Nat} {Post : Option qV → qH → Prop} (hP : Post none (f_old h NH)) :
    ∀ (m j : Nat), j + m = NH → Vw yX7_endOldHolds cX7_endOldHolds 3 none (qrm 2 44 0 0) 0 0 n0 Post 2 [(0, .inr (.inr (some (1, 0)))), (1, .inl (nI j))] [] (f_old h j) 0 0 := by
  intro m
  induction m with
  | zero =>
    intro j hj
    have hj : j = NH := by omega
    subst hj
    obtain ⟨a1, a2, a3, a4, a5⟩ := f_old_fr (h := h) j
    refine V_iload_n 3 dX7_endOldHolds_2 rfl rfl ?_
    refine V_aload_n 4 dX7_endOldHolds_3 rfl rfl ?_
    refine V_getiV 7 7 7 fl_X7_102 dX7_endOldHolds_4 rfl rfl (by decide) rfl (by decide) ((a5 7 (by decide)).trans e) ?_
    refine V_icmp_ge 45 10 dX7_endOldHolds_7 rfl rfl (fun c_7 => ?_) (fun c_7 => ?_)
    · skip
      refine V_vret dX7_endOldHolds_45 rfl ?_ (by first | exact Nat.le_refl _ | decide | omega) (by first | exact Nat.le_refl _ | decide | omega)
      exact hP
    · skip
      exact absurd (nI_le (Nat.le_refl _) (by omega)) c_7
  | succ m ih =>
    intro j hj
    have ih := ih (j + 1) (by omega)
    obtain ⟨a1, a2, a3, a4, a5⟩ := f_old_fr (h := h) j
    have hSg : SHC (f_old h j) NA NH NI := by unfold SHC; rw [a1.2.1]; exact hS
    have hOg : WO (f_old h j) NA := by unfold WO; rw [a1.2.1]; exact hO
    obtain ⟨u1, u2, u3, u4⟩ := hH j (by omega)
    unfold f_old at ih
    by_cases ho : qg_i h 27 j 4 = 0
    · rw [if_neg (fun q => q.1 ho)] at ih
      refine V_iload_n 3 dX7_endOldHolds_2 rfl rfl ?_
      refine V_aload_n 4 dX7_endOldHolds_3 rfl rfl ?_
      refine V_getiV 7 7 7 fl_X7_102 dX7_endOldHolds_4 rfl rfl (by decide) rfl (by decide) ((a5 7 (by decide)).trans e) ?_
      refine V_icmp_ge 45 10 dX7_endOldHolds_7 rfl rfl (fun c_7 => ?_) (fun c_7 => ?_)
      · skip
        exact absurd c_7 (nI_ge (by omega) (by omega))
      · skip
        refine V_aload_n 11 dX7_endOldHolds_10 rfl rfl ?_
        refine V_iload_n 12 dX7_endOldHolds_11 rfl rfl ?_
        refine V_cV1r 15 (opn_shut hSg ((a5 7 (by decide)).trans e) hNH (by omega) ((a4 j (Nat.le_refl _)).trans ho)) cs_X7_116 rfl rfl (by decide) dX7_endOldHolds_12 rfl ⟨Nat.le_of_ble_eq_true rfl, Nat.le_of_ble_eq_true rfl⟩ (Nat.le_of_ble_eq_true rfl) ⟨Nat.le_of_ble_eq_true rfl, Nat.le_of_ble_eq_true rfl⟩ (fun x h' hx hle => ?_)
        obtain ⟨rfl, rfl⟩ := hx
        refine V_astore_n 16 dX7_endOldHolds_15 rfl (by decide) ?_
        refine V_aload_n 17 dX7_endOldHolds_16 rfl rfl ?_
        refine V_ifnull 39 20 dX7_endOldHolds_17 rfl rfl (fun c_17 => ?_) (fun a_17 c_17 => ?_)
        · skip
          refine V_iincN 42 dX7_endOldHolds_39 rfl rfl (by decide) ?_
          refine V_goto 2 dX7_endOldHolds_42 rfl ?_
          exact V_at ih ⟨rfl, rfl, trivial⟩
        · skip
          cases c_17
    · skip
      refine V_iload_n 3 dX7_endOldHolds_2 rfl rfl ?_
      refine V_aload_n 4 dX7_endOldHolds_3 rfl rfl ?_
      refine V_getiV 7 7 7 fl_X7_102 dX7_endOldHolds_4 rfl rfl (by decide) rfl (by decide) ((a5 7 (by decide)).trans e) ?_
      refine V_icmp_ge 45 10 dX7_endOldHolds_7 rfl rfl (fun c_7 => ?_) (fun c_7 => ?_)
      · skip
        exact absurd c_7 (nI_ge (by omega) (by omega))
      · skip
        refine V_aload_n 11 dX7_endOldHolds_10 rfl rfl ?_
        refine V_iload_n 12 dX7_endOldHolds_11 rfl rfl ?_
        refine V_cV1r 15 (opn_ok hSg ((a5 7 (by decide)).trans e) hNH (by omega) (fun q => ho ((a4 j (Nat.le_refl _)).symm.trans q))) cs_X7_116 rfl rfl (by decide) dX7_endOldHolds_12 rfl ⟨Nat.le_of_ble_eq_true rfl, Nat.le_of_ble_eq_true rfl⟩ (Nat.le_of_ble_eq_true rfl) ⟨Nat.le_of_ble_eq_true rfl, Nat.le_of_ble_eq_true rfl⟩ (fun x h' hx hle => ?_)
        obtain ⟨rfl, rfl⟩ := hx
        refine V_astore_n 16 dX7_endOldHolds_15 rfl (by decide) ?_
        refine V_aload_n 17 dX7_endOldHolds_16 rfl rfl ?_
        refine V_ifnull 39 20 dX7_endOldHolds_17 rfl rfl (fun c_17 => ?_) (fun a_17 c_17 => ?_)
        · skip
          cases c_17
        · skip
          cases c_17
          refine V_aload_n 21 dX7_endOldHolds_20 rfl rfl ?_
          refine V_getiV 24 7 5 fl_X7_65 dX7_endOldHolds_21 rfl rfl (by decide) rfl (by decide) (a5 5 (by decide)) ?_
          refine V_aload_n 25 dX7_endOldHolds_24 rfl rfl ?_
          refine V_getiV 28 2 3 fl_X7_236 dX7_endOldHolds_25 rfl rfl (by decide) rfl (by decide) (a3 j 3 (by decide)) ?_
          refine V_isub 29 dX7_endOldHolds_28 rfl ?_
          refine V_bipush (v := 60) 31 dX7_endOldHolds_29 rfl (by decide) ?_
          refine V_icmp_lt 39 34 dX7_endOldHolds_31 rfl rfl (fun c_31 => ?_) (fun c_31 => ?_)
          · skip
            rw [if_neg (by grind)] at ih
            refine V_iincN 42 dX7_endOldHolds_39 rfl rfl (by decide) ?_
            refine V_goto 2 dX7_endOldHolds_42 rfl ?_
            exact V_at ih ⟨rfl, rfl, trivial⟩
          · skip
            rw [if_pos (by grind)] at ih
            refine V_aload_n 35 dX7_endOldHolds_34 rfl rfl ?_
            refine V_aload_n 36 dX7_endOldHolds_35 rfl rfl ?_
            refine V_cV1v 39 (ct_X7_endHold hSg hNA hOg u1 u3 (by rw [a1.2.1]; exact u2) ((a3 j 1 (by decide)).trans u4)) cs_X7_135 rfl rfl (by decide) dX7_endOldHolds_36 rfl ⟨Nat.le_of_ble_eq_true rfl, Nat.le_of_ble_eq_true rfl⟩ (Nat.le_of_ble_eq_true rfl) ⟨Nat.le_of_ble_eq_true rfl, Nat.le_of_ble_eq_true rfl⟩ (fun h' hx hle => ?_)
            obtain rfl := hx
            refine V_iincN 42 dX7_endOldHolds_39 rfl rfl (by decide) ?_
            refine V_goto 2 dX7_endOldHolds_42 rfl ?_
            exact V_at ih ⟨rfl, rfl, trivial⟩
theorem ct_X7_endOldHolds (hS : SHC h NA NH NI) (hNA : NA ≤ 24) (hO : WO h NA) (e : qg_i h 1 0 7 = nI NH) (hNH : NH ≤ 200) (hH : WHC h NA NH) : qM yX7_endOldHolds cX7_endOldHolds 3 none 2 44 0 0 [.inr (.inr (some (1, 0)))] h (pV fun h' => h' = f_old h NH) := by
  refine qM.of (plainFor_of_name (by decide)) (Nat.le_of_ble_eq_true rfl) ?_
  refine V_iconst (v := 0) 1 dX7_endOldHolds_0 rfl (by decide) ?_
  refine V_istore_n 2 dX7_endOldHolds_1 rfl (by decide) ?_
  exact V_at (lp_X7_old hS hNA hO e hNH hH ⟨rfl, rfl⟩ NH 0 (by omega)) ⟨rfl, rfl, trivial⟩
theorem ct_X7_tick_bad {a : Int32} (hb : a < 1 ∨ 10000 < a) : qM yX7_tick cX7_tick 2 ((some .int)) 3 66 0 0 [.inr (.inr (some (1, 0))), .inl a] h (pI fun x h' => x = -2 ∧ h' = h) := by
  refine qM.of (plainFor_of_name (by decide)) (Nat.le_of_ble_eq_true rfl) ?_
  refine V_iload_n 1 dX7_tick_0 rfl rfl ?_
  refine V_iconst (v := 1) 2 dX7_tick_1 rfl (by decide) ?_
  refine V_icmp_lt 12 5 dX7_tick_2 rfl rfl (fun c_2 => ?_) (fun c_2 => ?_)
  · skip
    refine V_bipush (v := (-2)) 14 dX7_tick_12 rfl (by decide) ?_
    refine V_iret dX7_tick_14 rfl rfl ⟨_, rfl, ?_⟩ (by first | exact Nat.le_refl _ | decide | omega) (by first | exact Nat.le_refl _ | decide | omega)
    exact ⟨rfl, rfl⟩
  · skip
    refine V_iload_n 6 dX7_tick_5 rfl rfl ?_
    refine V_sipush (v := 10000) 9 dX7_tick_6 rfl (by decide) ?_
    refine V_icmp_le 15 12 dX7_tick_9 rfl rfl (fun c_9 => ?_) (fun c_9 => ?_)
    · skip
      exfalso; grind
    · skip
      refine V_bipush (v := (-2)) 14 dX7_tick_12 rfl (by decide) ?_
      refine V_iret dX7_tick_14 rfl rfl ⟨_, rfl, ?_⟩ (by first | exact Nat.le_refl _ | decide | omega) (by first | exact Nat.le_refl _ | decide | omega)
      exact ⟨rfl, rfl⟩
theorem ct_X7_tick_full {a : Int32} (h1 : 1 ≤ a ∧ a ≤ 10000) (h2 : 99999 < qg_i h 1 0 5 + a) : qM yX7_tick cX7_tick 2 ((some .int)) 3 66 0 0 [.inr (.inr (some (1, 0))), .inl a] h (pI fun x h' => x = -3 ∧ h' = h) := by
  refine qM.of (plainFor_of_name (by decide)) (Nat.le_of_ble_eq_true rfl) ?_
  refine V_iload_n 1 dX7_tick_0 rfl rfl ?_
  refine V_iconst (v := 1) 2 dX7_tick_1 rfl (by decide) ?_
  refine V_icmp_lt 12 5 dX7_tick_2 rfl rfl (fun c_2 => ?_) (fun c_2 => ?_)
  · skip
    exfalso; grind
  · skip
    refine V_iload_n 6 dX7_tick_5 rfl rfl ?_
    refine V_sipush (v := 10000) 9 dX7_tick_6 rfl (by decide) ?_
    refine V_icmp_le 15 12 dX7_tick_9 rfl rfl (fun c_9 => ?_) (fun c_9 => ?_)
    · skip
      refine V_aload_n 16 dX7_tick_15 rfl rfl ?_
      refine V_geti 19 7 5 fl_X7_65 dX7_tick_16 rfl rfl (by decide) rfl (by decide) ?_
      refine V_iload_n 20 dX7_tick_19 rfl rfl ?_
      refine V_iadd 21 dX7_tick_20 rfl ?_
      refine V_ldc (v := 99999) 23 dX7_tick_21 rfl wc_X7_68 ?_
      refine V_icmp_le 29 26 dX7_tick_23 rfl rfl (fun c_23 => ?_) (fun c_23 => ?_)
      · skip
        exact absurd h2 (by grind)
      · skip
        refine V_bipush (v := (-3)) 28 dX7_tick_26 rfl (by decide) ?_
        refine V_iret dX7_tick_28 rfl rfl ⟨_, rfl, ?_⟩ (by first | exact Nat.le_refl _ | decide | omega) (by first | exact Nat.le_refl _ | decide | omega)
        exact ⟨rfl, rfl⟩
    · skip
      exfalso; grind
theorem ct_X7_tick_ok {a : Int32} {nk : Nat} (hS : SHC h NA NH NI) (hNA : NA ≤ 24) (hO : WO h NA) (e : qg_i h 1 0 7 = nI NH) (hNH : NH ≤ 200) (hH : WHC h NA NH) (ek : qg_i h 6 0 3 = nI nk) (hnk : nk ≤ 300) (h1 : 1 ≤ a ∧ a ≤ 10000) (h2 : qg_i h 1 0 5 + a ≤ 99999) : qM yX7_tick cX7_tick 2 ((some .int)) 3 66 0 0 [.inr (.inr (some (1, 0))), .inl a] h (pI fun x h' => x = qg_i h 1 0 5 + a ∧ ∃ g ng, FGC (qs_i h 1 0 5 (qg_i h 1 0 5 + a)) (qg_i h 1 0 5 + a) nk g ng ∧ h' = f_old g NH) := by
  refine qM.of (plainFor_of_name (by decide)) (Nat.le_of_ble_eq_true rfl) ?_
  refine V_iload_n 1 dX7_tick_0 rfl rfl ?_
  refine V_iconst (v := 1) 2 dX7_tick_1 rfl (by decide) ?_
  refine V_icmp_lt 12 5 dX7_tick_2 rfl rfl (fun c_2 => ?_) (fun c_2 => ?_)
  · skip
    exfalso; grind
  · skip
    refine V_iload_n 6 dX7_tick_5 rfl rfl ?_
    refine V_sipush (v := 10000) 9 dX7_tick_6 rfl (by decide) ?_
    refine V_icmp_le 15 12 dX7_tick_9 rfl rfl (fun c_9 => ?_) (fun c_9 => ?_)
    · skip
      refine V_aload_n 16 dX7_tick_15 rfl rfl ?_
      refine V_geti 19 7 5 fl_X7_65 dX7_tick_16 rfl rfl (by decide) rfl (by decide) ?_
      refine V_iload_n 20 dX7_tick_19 rfl rfl ?_
      refine V_iadd 21 dX7_tick_20 rfl ?_
      refine V_ldc (v := 99999) 23 dX7_tick_21 rfl wc_X7_68 ?_
      refine V_icmp_le 29 26 dX7_tick_23 rfl rfl (fun c_23 => ?_) (fun c_23 => ?_)
      · skip
        refine V_aload_n 30 dX7_tick_29 rfl rfl ?_
        refine V_dup 31 dX7_tick_30 rfl ?_
        refine V_geti 34 7 5 fl_X7_65 dX7_tick_31 rfl rfl (by decide) rfl (by decide) ?_
        refine V_iload_n 35 dX7_tick_34 rfl rfl ?_
        refine V_iadd 36 dX7_tick_35 rfl ?_
        refine V_puti 39 7 5 fl_X7_65 dX7_tick_36 rfl rfl (by decide) rfl (by decide) (Or.inl rfl) ?_
        refine V_aload_n 40 dX7_tick_39 rfl rfl ?_
        refine V_getR 43 7 4 fl_X7_36 dX7_tick_40 rfl rfl (by decide) (Or.inl ⟨_, rfl⟩) (by decide) (sh_7_4 hS) ?_
        refine V_aload_n 44 dX7_tick_43 rfl rfl ?_
        refine V_getiV 47 7 5 fl_X7_65 dX7_tick_44 rfl rfl (by decide) rfl (by decide) (show _ = qg_i h 1 0 5 + a by simp [qii]) ?_
        refine V_cV1v 50 (ct_X4_forgetOld (NA := NA) (NH := NH) (NI := NI) (nk := nk) hS ek hnk) cs_X7_69 rfl rfl (by decide) dX7_tick_47 rfl ⟨Nat.le_of_ble_eq_true rfl, Nat.le_of_ble_eq_true rfl⟩ (Nat.le_of_ble_eq_true rfl) ⟨Nat.le_of_ble_eq_true rfl, Nat.le_of_ble_eq_true rfl⟩ (fun h' hx hle => ?_)
        obtain ⟨ng, hg⟩ := hx
        have hr_eq : qg_r h' = qg_r h := hg.2.2.2.1.2
        have hk := hg.2.2.2.2
        have hi1 : ∀ k, qg_i h' 1 0 k = qg_i (qs_i h 1 0 5 (qg_i h 1 0 5 + a)) 1 0 k := fun k => (hk 1 0 k (by simp)).1
        have hi27 : ∀ i k, qg_i h' 27 i k = qg_i h 27 i k := fun i k => (hk 27 i k (by simp)).1
        have hSg : SHC h' NA NH NI := by unfold SHC; rw [hr_eq]; exact hS
        have hOg : WO h' NA := by unfold WO; rw [hr_eq]; exact hO
        have hHg : WHC h' NA NH := by
          intro j hj
          have := hH j hj
          unfold hu_ hr_ at *
          rw [hr_eq, hi27]
          exact this
        refine V_aload_n 51 dX7_tick_50 rfl rfl ?_
        refine V_cV0v 54 (ct_X7_endOldHolds hSg hNA hOg ((hi1 7).trans e) hNH hHg) cs_X7_72 rfl rfl (by decide) dX7_tick_51 rfl ⟨Nat.le_of_ble_eq_true rfl, Nat.le_of_ble_eq_true rfl⟩ (Nat.le_of_ble_eq_true rfl) ⟨Nat.le_of_ble_eq_true rfl, Nat.le_of_ble_eq_true rfl⟩ (fun h' hx hle => ?_)
        obtain rfl := hx
        refine V_aload_n 55 dX7_tick_54 rfl rfl ?_
        refine V_geti 58 7 5 fl_X7_65 dX7_tick_55 rfl rfl (by decide) rfl (by decide) ?_
        refine V_iret dX7_tick_58 rfl rfl ⟨_, rfl, ?_⟩ (by first | exact Nat.le_refl _ | decide | omega) (by first | exact Nat.le_refl _ | decide | omega)
        refine ⟨?_, _, ng, hg, rfl⟩
        rw [(f_old_fr NH).2.2.2.2 5 (by decide), hi1 5]
        simp [qii]
      · skip
        exact absurd h2 c_23
    · skip
      exfalso; grind
end CE
