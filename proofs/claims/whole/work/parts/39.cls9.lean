/-! The class: requests, accounts, closing -/
section CL
variable {h : qH} {NA NH NI : Nat}
def f_req (h : qH) (NH a r : Nat) (u : Int32) : qH := ahF (qs_i (qs_i (qs_r (f_2 (qs_n h 27) NH (some (22, a)) (nI r) u (qg_i h 1 0 5)) 4 0 NH (some (27, NH))) 1 0 7 (nI (NH + 1))) 1 0 8 (qg_i h 1 0 8 + 1)) (ly (par h) a) r u
theorem ct_X7_request_ok {a r p : Nat} {u : Int32} (hS : SHC h NA NH NI) (hO : WO h NA) (e : qg_i h 1 0 6 = nI NA) (hNA : NA ≤ 24) (eh : qg_i h 1 0 7 = nI NH) (hNH : NH < 200) (en : qg_n h 27 = NH) (ha : a < NA) (hr : r < 4) (hp : p < 100) (enow : qg_i h 1 0 5 / 1000 = nI p) (hu : 1 ≤ u ∧ u ≤ 1000000) (ho : qg_i h 1 0 8 < 40) (hf : u ≤ (if 0 < f_room h r p a then f_room h r p a else 0).toInt32) : qM yX7_request cX7_request 5 ((some .int)) 2 48 1 5 [.inr (.inr (some (1, 0))), .inl (nI a), .inl (nI r), .inl u] h (pI fun x h' => x = nI NH ∧ h' = f_req h NH a r u) := by
  refine qM.of (plainFor_of_name (by decide)) (Nat.le_of_ble_eq_true rfl) ?_
  refine V_aload_n 1 dX7_request_0 rfl rfl ?_
  refine V_iload_n 2 dX7_request_1 rfl rfl ?_
  refine V_cV1r 5 (acc_ok hS e hNA ha) cs_X7_47 rfl rfl (by decide) dX7_request_2 rfl ⟨Nat.le_of_ble_eq_true rfl, Nat.le_of_ble_eq_true rfl⟩ (Nat.le_of_ble_eq_true rfl) ⟨Nat.le_of_ble_eq_true rfl, Nat.le_of_ble_eq_true rfl⟩ (fun x h' hx hle => ?_)
  obtain ⟨rfl, rfl⟩ := hx
  refine V_astore 7 dX7_request_5 rfl (by decide) ?_
  refine V_aload 9 dX7_request_7 rfl rfl ?_
  refine V_ifnull 26 12 dX7_request_9 rfl rfl (fun c_9 => ?_) (fun a_9 c_9 => ?_)
  · skip
    cases c_9
  · skip
    cases c_9
    refine V_iload_n 13 dX7_request_12 rfl rfl ?_
    refine V_cS1i 16 (cr_ok hr) cs_X7_75 dX7_request_13 rfl ⟨Nat.le_of_ble_eq_true rfl, Nat.le_of_ble_eq_true rfl⟩ (Nat.le_of_ble_eq_true rfl) ⟨Nat.le_of_ble_eq_true rfl, Nat.le_of_ble_eq_true rfl⟩ (fun x h' hx hle => ?_)
    obtain ⟨rfl, rfl⟩ := hx
    refine V_if_eq 26 19 dX7_request_16 rfl rfl (fun c_16 => ?_) (fun c_16 => ?_)
    · skip
      exfalso; grind
    · skip
      refine V_iload_n 20 dX7_request_19 rfl rfl ?_
      refine V_cS1i 23 (cu_ok hu) cs_X7_79 dX7_request_20 rfl ⟨Nat.le_of_ble_eq_true rfl, Nat.le_of_ble_eq_true rfl⟩ (Nat.le_of_ble_eq_true rfl) ⟨Nat.le_of_ble_eq_true rfl, Nat.le_of_ble_eq_true rfl⟩ (fun x h' hx hle => ?_)
      obtain ⟨rfl, rfl⟩ := hx
      refine V_if_ne 29 26 dX7_request_23 rfl rfl (fun c_23 => ?_) (fun c_23 => ?_)
      · skip
        refine V_aload_n 30 dX7_request_29 rfl rfl ?_
        refine V_geti 33 7 8 fl_X7_99 dX7_request_30 rfl rfl (by decide) rfl (by decide) ?_
        refine V_bipush (v := 40) 35 dX7_request_33 rfl (by decide) ?_
        refine V_icmp_ge 48 38 dX7_request_35 rfl rfl (fun c_35 => ?_) (fun c_35 => ?_)
        · skip
          grind
        · skip
          refine V_aload_n 39 dX7_request_38 rfl rfl ?_
          refine V_getiV 42 7 7 fl_X7_102 dX7_request_39 rfl rfl (by decide) rfl (by decide) eh ?_
          refine V_sipush (v := 200) 45 dX7_request_42 rfl (by decide) ?_
          refine V_icmp_lt 51 48 dX7_request_45 rfl rfl (fun c_45 => ?_) (fun c_45 => ?_)
          · skip
            refine V_iload_n 52 dX7_request_51 rfl rfl ?_
            refine V_aload 54 dX7_request_52 rfl rfl ?_
            refine V_iload_n 55 dX7_request_54 rfl rfl ?_
            refine V_aload_n 56 dX7_request_55 rfl rfl ?_
            refine V_geti 59 7 5 fl_X7_65 dX7_request_56 rfl rfl (by decide) rfl (by decide) ?_
            refine V_sipush (v := 1000) 62 dX7_request_59 rfl (by decide) ?_
            refine V_idiv 63 dX7_request_62 rfl (by decide) ?_
            rw [enow]
            refine V_cV2i 66 (ct_X0_freeUnits hS hO hNA ha hr hp) cs_X7_105 rfl rfl (by decide) dX7_request_63 rfl ⟨Nat.le_of_ble_eq_true rfl, Nat.le_of_ble_eq_true rfl⟩ (Nat.le_of_ble_eq_true rfl) ⟨Nat.le_of_ble_eq_true rfl, Nat.le_of_ble_eq_true rfl⟩ (fun x h' hx hle => ?_)
            obtain ⟨rfl, rfl⟩ := hx
            refine V_icmp_le 72 69 dX7_request_66 rfl rfl (fun c_66 => ?_) (fun c_66 => ?_)
            · skip
              refine V_aload_n 73 dX7_request_72 rfl rfl ?_
              refine V_getR 76 7 2 fl_X7_23 dX7_request_73 rfl rfl (by decide) (Or.inr ⟨_, rfl⟩) (by decide) (sh_7_2 hS) ?_
              refine V_aload_n 77 dX7_request_76 rfl rfl ?_
              refine V_getiV 80 7 7 fl_X7_102 dX7_request_77 rfl rfl (by decide) rfl (by decide) eh ?_
              refine V_newI 83 27 2 dX7_request_80 rfl rfl (by decide) (by decide) wk_X7_21 wn_X2 wi_X2 (Nat.le_of_ble_eq_true rfl) (Nat.le_of_ble_eq_true rfl) (by decide) en ?_
              refine V_dup 84 dX7_request_83 rfl ?_
              refine V_aload 86 dX7_request_84 rfl rfl ?_
              refine V_iload_n 87 dX7_request_86 rfl rfl ?_
              refine V_iload_n 88 dX7_request_87 rfl rfl ?_
              refine V_aload_n 89 dX7_request_88 rfl rfl ?_
              refine V_getiV 92 7 5 fl_X7_65 dX7_request_89 rfl rfl (by decide) rfl (by decide) (show _ = qg_i h' 1 0 5 from rfl) ?_
              refine V_cI4v 95 ct_X2_init cs_X7_109 dX7_request_92 rfl ⟨Nat.le_of_ble_eq_true rfl, Nat.le_of_ble_eq_true rfl⟩ (Nat.le_of_ble_eq_true rfl) ⟨Nat.le_of_ble_eq_true rfl, Nat.le_of_ble_eq_true rfl⟩ (fun h' hx hle => ?_)
              obtain rfl := hx
              refine V_aastN 96 (_) dX7_request_95 rfl rfl rfl (by decide) (by decide) rfl (show _ < 200 by omega) (by decide) ?_
              refine V_aload_n 97 dX7_request_96 rfl rfl ?_
              refine V_dup 98 dX7_request_97 rfl ?_
              refine V_getiV 101 7 7 fl_X7_102 dX7_request_98 rfl rfl (by decide) rfl (by decide) (show _ = nI NH from eh) ?_
              refine V_iconst (v := 1) 102 dX7_request_101 rfl (by decide) ?_
              refine V_iadd 103 dX7_request_102 rfl ?_
              rw [nI_1]
              refine V_puti 106 7 7 fl_X7_102 dX7_request_103 rfl rfl (by decide) rfl (by decide) (Or.inl rfl) ?_
              refine V_aload_n 107 dX7_request_106 rfl rfl ?_
              refine V_dup 108 dX7_request_107 rfl ?_
              refine V_getiV 111 7 8 fl_X7_99 dX7_request_108 rfl rfl (by decide) rfl (by decide) (show _ = qg_i h' 1 0 8 from rfl) ?_
              refine V_iconst (v := 1) 112 dX7_request_111 rfl (by decide) ?_
              refine V_iadd 113 dX7_request_112 rfl ?_
              refine V_puti 116 7 8 fl_X7_99 dX7_request_113 rfl rfl (by decide) rfl (by decide) (Or.inl rfl) ?_
              refine V_aload 118 dX7_request_116 rfl rfl ?_
              refine V_iload_n 119 dX7_request_118 rfl rfl ?_
              refine V_iload_n 120 dX7_request_119 rfl rfl ?_
              refine V_cV2v 123 (ct_X0_addHeld (NA := NA) (NH := 0) (NI := NI) ⟨hS.1, hS.2.1, hS.2.2.1, hS.2.2.2.1, hS.2.2.2.2.1, fun j hj => absurd hj (Nat.not_lt_zero j), hS.2.2.2.2.2.2⟩ hO hNA ha hr) cs_X7_112 rfl rfl (by decide) dX7_request_120 rfl ⟨Nat.le_of_ble_eq_true rfl, Nat.le_of_ble_eq_true rfl⟩ (Nat.le_of_ble_eq_true rfl) ⟨Nat.le_of_ble_eq_true rfl, Nat.le_of_ble_eq_true rfl⟩ (fun h' hx hle => ?_)
              obtain rfl := hx
              refine V_aload_n 124 dX7_request_123 rfl rfl ?_
              refine V_getiV 127 7 7 fl_X7_102 dX7_request_124 rfl rfl (by decide) rfl (by decide) (show _ = nI (NH + 1) by simp [ahF, qg_i, qs_i]) ?_
              refine V_iconst (v := 1) 128 dX7_request_127 rfl (by decide) ?_
              refine V_isub 129 dX7_request_128 rfl ?_
              rw [nI_pred]
              refine V_iret dX7_request_129 rfl rfl ⟨_, rfl, ?_⟩ (by first | exact Nat.le_refl _ | decide | omega) (by first | exact Nat.le_refl _ | decide | omega)
              exact ⟨rfl, rfl⟩
            · skip
              exact absurd hf c_66
          · skip
            exact absurd (nI_lt (b := 200) hNH (by omega)) c_45
      · skip
        exfalso; grind
theorem ct_X7_request_full {a r : Nat} {u : Int32} (hS : SHC h NA NH NI) (e : qg_i h 1 0 6 = nI NA) (hNA : NA ≤ 24) (ha : a < NA) (hr : r < 4) (hu : 1 ≤ u ∧ u ≤ 1000000) (ho : 40 ≤ qg_i h 1 0 8 ∨ 200 ≤ qg_i h 1 0 7) : qM yX7_request cX7_request 5 ((some .int)) 2 48 1 5 [.inr (.inr (some (1, 0))), .inl (nI a), .inl (nI r), .inl u] h (pI fun x h' => x = -3 ∧ h' = h) := by
  refine qM.of (plainFor_of_name (by decide)) (Nat.le_of_ble_eq_true rfl) ?_
  refine V_aload_n 1 dX7_request_0 rfl rfl ?_
  refine V_iload_n 2 dX7_request_1 rfl rfl ?_
  refine V_cV1r 5 (acc_ok hS e hNA ha) cs_X7_47 rfl rfl (by decide) dX7_request_2 rfl ⟨Nat.le_of_ble_eq_true rfl, Nat.le_of_ble_eq_true rfl⟩ (Nat.le_of_ble_eq_true rfl) ⟨Nat.le_of_ble_eq_true rfl, Nat.le_of_ble_eq_true rfl⟩ (fun x h' hx hle => ?_)
  obtain ⟨rfl, rfl⟩ := hx
  refine V_astore 7 dX7_request_5 rfl (by decide) ?_
  refine V_aload 9 dX7_request_7 rfl rfl ?_
  refine V_ifnull 26 12 dX7_request_9 rfl rfl (fun c_9 => ?_) (fun a_9 c_9 => ?_)
  · skip
    cases c_9
  · skip
    cases c_9
    refine V_iload_n 13 dX7_request_12 rfl rfl ?_
    refine V_cS1i 16 (cr_ok hr) cs_X7_75 dX7_request_13 rfl ⟨Nat.le_of_ble_eq_true rfl, Nat.le_of_ble_eq_true rfl⟩ (Nat.le_of_ble_eq_true rfl) ⟨Nat.le_of_ble_eq_true rfl, Nat.le_of_ble_eq_true rfl⟩ (fun x h' hx hle => ?_)
    obtain ⟨rfl, rfl⟩ := hx
    refine V_if_eq 26 19 dX7_request_16 rfl rfl (fun c_16 => ?_) (fun c_16 => ?_)
    · skip
      exfalso; grind
    · skip
      refine V_iload_n 20 dX7_request_19 rfl rfl ?_
      refine V_cS1i 23 (cu_ok hu) cs_X7_79 dX7_request_20 rfl ⟨Nat.le_of_ble_eq_true rfl, Nat.le_of_ble_eq_true rfl⟩ (Nat.le_of_ble_eq_true rfl) ⟨Nat.le_of_ble_eq_true rfl, Nat.le_of_ble_eq_true rfl⟩ (fun x h' hx hle => ?_)
      obtain ⟨rfl, rfl⟩ := hx
      refine V_if_ne 29 26 dX7_request_23 rfl rfl (fun c_23 => ?_) (fun c_23 => ?_)
      · skip
        refine V_aload_n 30 dX7_request_29 rfl rfl ?_
        refine V_geti 33 7 8 fl_X7_99 dX7_request_30 rfl rfl (by decide) rfl (by decide) ?_
        refine V_bipush (v := 40) 35 dX7_request_33 rfl (by decide) ?_
        refine V_icmp_ge 48 38 dX7_request_35 rfl rfl (fun c_35 => ?_) (fun c_35 => ?_)
        · skip
          refine V_bipush (v := (-3)) 50 dX7_request_48 rfl (by decide) ?_
          refine V_iret dX7_request_50 rfl rfl ⟨_, rfl, ?_⟩ (by first | exact Nat.le_refl _ | decide | omega) (by first | exact Nat.le_refl _ | decide | omega)
          exact ⟨rfl, rfl⟩
        · skip
          refine V_aload_n 39 dX7_request_38 rfl rfl ?_
          refine V_geti 42 7 7 fl_X7_102 dX7_request_39 rfl rfl (by decide) rfl (by decide) ?_
          refine V_sipush (v := 200) 45 dX7_request_42 rfl (by decide) ?_
          refine V_icmp_lt 51 48 dX7_request_45 rfl rfl (fun c_45 => ?_) (fun c_45 => ?_)
          · skip
            exfalso; grind
          · skip
            refine V_bipush (v := (-3)) 50 dX7_request_48 rfl (by decide) ?_
            refine V_iret dX7_request_50 rfl rfl ⟨_, rfl, ?_⟩ (by first | exact Nat.le_refl _ | decide | omega) (by first | exact Nat.le_refl _ | decide | omega)
            exact ⟨rfl, rfl⟩
      · skip
        exfalso; grind
theorem ct_X7_request_ref {a r p : Nat} {u : Int32} (hS : SHC h NA NH NI) (hO : WO h NA) (e : qg_i h 1 0 6 = nI NA) (hNA : NA ≤ 24) (ha : a < NA) (hr : r < 4) (hp : p < 100) (enow : qg_i h 1 0 5 / 1000 = nI p) (hu : 1 ≤ u ∧ u ≤ 1000000) (ho : qg_i h 1 0 8 < 40) (hh : qg_i h 1 0 7 < 200) (hf : ¬ u ≤ (if 0 < f_room h r p a then f_room h r p a else 0).toInt32) : qM yX7_request cX7_request 5 ((some .int)) 2 48 1 5 [.inr (.inr (some (1, 0))), .inl (nI a), .inl (nI r), .inl u] h (pI fun x h' => x = -7 ∧ h' = h) := by
  refine qM.of (plainFor_of_name (by decide)) (Nat.le_of_ble_eq_true rfl) ?_
  refine V_aload_n 1 dX7_request_0 rfl rfl ?_
  refine V_iload_n 2 dX7_request_1 rfl rfl ?_
  refine V_cV1r 5 (acc_ok hS e hNA ha) cs_X7_47 rfl rfl (by decide) dX7_request_2 rfl ⟨Nat.le_of_ble_eq_true rfl, Nat.le_of_ble_eq_true rfl⟩ (Nat.le_of_ble_eq_true rfl) ⟨Nat.le_of_ble_eq_true rfl, Nat.le_of_ble_eq_true rfl⟩ (fun x h' hx hle => ?_)
  obtain ⟨rfl, rfl⟩ := hx
  refine V_astore 7 dX7_request_5 rfl (by decide) ?_
  refine V_aload 9 dX7_request_7 rfl rfl ?_
  refine V_ifnull 26 12 dX7_request_9 rfl rfl (fun c_9 => ?_) (fun a_9 c_9 => ?_)
  · skip
    cases c_9
  · skip
    cases c_9
    refine V_iload_n 13 dX7_request_12 rfl rfl ?_
    refine V_cS1i 16 (cr_ok hr) cs_X7_75 dX7_request_13 rfl ⟨Nat.le_of_ble_eq_true rfl, Nat.le_of_ble_eq_true rfl⟩ (Nat.le_of_ble_eq_true rfl) ⟨Nat.le_of_ble_eq_true rfl, Nat.le_of_ble_eq_true rfl⟩ (fun x h' hx hle => ?_)
    obtain ⟨rfl, rfl⟩ := hx
    refine V_if_eq 26 19 dX7_request_16 rfl rfl (fun c_16 => ?_) (fun c_16 => ?_)
    · skip
      exfalso; grind
    · skip
      refine V_iload_n 20 dX7_request_19 rfl rfl ?_
      refine V_cS1i 23 (cu_ok hu) cs_X7_79 dX7_request_20 rfl ⟨Nat.le_of_ble_eq_true rfl, Nat.le_of_ble_eq_true rfl⟩ (Nat.le_of_ble_eq_true rfl) ⟨Nat.le_of_ble_eq_true rfl, Nat.le_of_ble_eq_true rfl⟩ (fun x h' hx hle => ?_)
      obtain ⟨rfl, rfl⟩ := hx
      refine V_if_ne 29 26 dX7_request_23 rfl rfl (fun c_23 => ?_) (fun c_23 => ?_)
      · skip
        refine V_aload_n 30 dX7_request_29 rfl rfl ?_
        refine V_geti 33 7 8 fl_X7_99 dX7_request_30 rfl rfl (by decide) rfl (by decide) ?_
        refine V_bipush (v := 40) 35 dX7_request_33 rfl (by decide) ?_
        refine V_icmp_ge 48 38 dX7_request_35 rfl rfl (fun c_35 => ?_) (fun c_35 => ?_)
        · skip
          exfalso; grind
        · skip
          refine V_aload_n 39 dX7_request_38 rfl rfl ?_
          refine V_geti 42 7 7 fl_X7_102 dX7_request_39 rfl rfl (by decide) rfl (by decide) ?_
          refine V_sipush (v := 200) 45 dX7_request_42 rfl (by decide) ?_
          refine V_icmp_lt 51 48 dX7_request_45 rfl rfl (fun c_45 => ?_) (fun c_45 => ?_)
          · skip
            refine V_iload_n 52 dX7_request_51 rfl rfl ?_
            refine V_aload 54 dX7_request_52 rfl rfl ?_
            refine V_iload_n 55 dX7_request_54 rfl rfl ?_
            refine V_aload_n 56 dX7_request_55 rfl rfl ?_
            refine V_geti 59 7 5 fl_X7_65 dX7_request_56 rfl rfl (by decide) rfl (by decide) ?_
            refine V_sipush (v := 1000) 62 dX7_request_59 rfl (by decide) ?_
            refine V_idiv 63 dX7_request_62 rfl (by decide) ?_
            rw [enow]
            refine V_cV2i 66 (ct_X0_freeUnits hS hO hNA ha hr hp) cs_X7_105 rfl rfl (by decide) dX7_request_63 rfl ⟨Nat.le_of_ble_eq_true rfl, Nat.le_of_ble_eq_true rfl⟩ (Nat.le_of_ble_eq_true rfl) ⟨Nat.le_of_ble_eq_true rfl, Nat.le_of_ble_eq_true rfl⟩ (fun x h' hx hle => ?_)
            obtain ⟨rfl, rfl⟩ := hx
            refine V_icmp_le 72 69 dX7_request_66 rfl rfl (fun c_66 => ?_) (fun c_66 => ?_)
            · skip
              exact absurd c_66 hf
            · skip
              refine V_bipush (v := (-7)) 71 dX7_request_69 rfl (by decide) ?_
              refine V_iret dX7_request_71 rfl rfl ⟨_, rfl, ?_⟩ (by first | exact Nat.le_refl _ | decide | omega) (by first | exact Nat.le_refl _ | decide | omega)
              exact ⟨rfl, rfl⟩
          · skip
            exfalso; grind
      · skip
        exfalso; grind
theorem ct_X7_request_bad {a r u : Int32} (hS : SHC h NA NH NI) (e : qg_i h 1 0 6 = nI NA) (hNA : NA ≤ 24) (hbad : ¬ ((0 ≤ a ∧ a < nI NA) ∧ (0 ≤ r ∧ r < 4) ∧ (1 ≤ u ∧ u ≤ 1000000))) : qM yX7_request cX7_request 5 ((some .int)) 2 48 1 5 [.inr (.inr (some (1, 0))), .inl a, .inl r, .inl u] h (pI fun x h' => x = -2 ∧ h' = h) := by
  rcases ix_c (x := a) (n := NA) (by omega) with z | ⟨b, hb, rfl⟩
  · refine qM.of (plainFor_of_name (by decide)) (Nat.le_of_ble_eq_true rfl) ?_
    refine V_aload_n 1 dX7_request_0 rfl rfl ?_
    refine V_iload_n 2 dX7_request_1 rfl rfl ?_
    refine V_cV1r 5 (acc_no e z) cs_X7_47 rfl rfl (by decide) dX7_request_2 rfl ⟨Nat.le_of_ble_eq_true rfl, Nat.le_of_ble_eq_true rfl⟩ (Nat.le_of_ble_eq_true rfl) ⟨Nat.le_of_ble_eq_true rfl, Nat.le_of_ble_eq_true rfl⟩ (fun x h' hx hle => ?_)
    obtain ⟨rfl, rfl⟩ := hx
    refine V_astore 7 dX7_request_5 rfl (by decide) ?_
    refine V_aload 9 dX7_request_7 rfl rfl ?_
    refine V_ifnull 26 12 dX7_request_9 rfl rfl (fun c_9 => ?_) (fun a_9 c_9 => ?_)
    · skip
      refine V_bipush (v := (-2)) 28 dX7_request_26 rfl (by decide) ?_
      refine V_iret dX7_request_28 rfl rfl ⟨_, rfl, ?_⟩ (by first | exact Nat.le_refl _ | decide | omega) (by first | exact Nat.le_refl _ | decide | omega)
      exact ⟨rfl, rfl⟩
    · skip
      cases c_9
  · have hv : 0 ≤ nI b ∧ nI b < nI NA := ⟨nI_pos' (by omega), nI_lt hb (by omega)⟩
    refine qM.of (plainFor_of_name (by decide)) (Nat.le_of_ble_eq_true rfl) ?_
    refine V_aload_n 1 dX7_request_0 rfl rfl ?_
    refine V_iload_n 2 dX7_request_1 rfl rfl ?_
    refine V_cV1r 5 (acc_ok hS e hNA hb) cs_X7_47 rfl rfl (by decide) dX7_request_2 rfl ⟨Nat.le_of_ble_eq_true rfl, Nat.le_of_ble_eq_true rfl⟩ (Nat.le_of_ble_eq_true rfl) ⟨Nat.le_of_ble_eq_true rfl, Nat.le_of_ble_eq_true rfl⟩ (fun x h' hx hle => ?_)
    obtain ⟨rfl, rfl⟩ := hx
    refine V_astore 7 dX7_request_5 rfl (by decide) ?_
    refine V_aload 9 dX7_request_7 rfl rfl ?_
    refine V_ifnull 26 12 dX7_request_9 rfl rfl (fun c_9 => ?_) (fun a_9 c_9 => ?_)
    · skip
      cases c_9
    · skip
      cases c_9
      refine V_iload_n 13 dX7_request_12 rfl rfl ?_
      refine V_cS1i 16 (ct_X7_isResource _ _) cs_X7_75 dX7_request_13 rfl ⟨Nat.le_of_ble_eq_true rfl, Nat.le_of_ble_eq_true rfl⟩ (Nat.le_of_ble_eq_true rfl) ⟨Nat.le_of_ble_eq_true rfl, Nat.le_of_ble_eq_true rfl⟩ (fun x h' hx hle => ?_)
      obtain ⟨rfl, rfl⟩ := hx
      refine V_if_eq 26 19 dX7_request_16 rfl rfl (fun c_16 => ?_) (fun c_16 => ?_)
      · skip
        refine V_bipush (v := (-2)) 28 dX7_request_26 rfl (by decide) ?_
        refine V_iret dX7_request_28 rfl rfl ⟨_, rfl, ?_⟩ (by first | exact Nat.le_refl _ | decide | omega) (by first | exact Nat.le_refl _ | decide | omega)
        exact ⟨rfl, rfl⟩
      · skip
        refine V_iload_n 20 dX7_request_19 rfl rfl ?_
        refine V_cS1i 23 (ct_X7_isUnits _ _) cs_X7_79 dX7_request_20 rfl ⟨Nat.le_of_ble_eq_true rfl, Nat.le_of_ble_eq_true rfl⟩ (Nat.le_of_ble_eq_true rfl) ⟨Nat.le_of_ble_eq_true rfl, Nat.le_of_ble_eq_true rfl⟩ (fun x h' hx hle => ?_)
        obtain ⟨rfl, rfl⟩ := hx
        refine V_if_ne 29 26 dX7_request_23 rfl rfl (fun c_23 => ?_) (fun c_23 => ?_)
        · skip
          exfalso; grind
        · skip
          refine V_bipush (v := (-2)) 28 dX7_request_26 rfl (by decide) ?_
          refine V_iret dX7_request_28 rfl rfl ⟨_, rfl, ?_⟩ (by first | exact Nat.le_refl _ | decide | omega) (by first | exact Nat.le_refl _ | decide | omega)
          exact ⟨rfl, rfl⟩
def f_acc (h : qH) (NA t : Nat) (o : Option (Nat × Nat)) : qH := qs_i (qs_r (f_0 (qs_n h 22) NA (nI NA) (some (10, t)) o) 3 0 NA (some (22, NA))) 1 0 6 (nI (NA + 1))
theorem ct_X7_account_root {t : Nat} (hS : SHC h NA NH NI) (e : qg_i h 1 0 6 = nI NA) (hNA : NA < 24) (n22 : qg_n h 22 = NA) (n23 : qg_n h 23 = NA) (n24 : qg_n h 24 = 4 * NA) (n25 : qg_n h 25 = NA) (n26 : qg_n h 26 = NA) (ht : t < 6) : qM yX7_account cX7_account 5 ((some .int)) 2 44 8 418 [.inr (.inr (some (1, 0))), .inl (nI t), .inl (-1)] h (pI fun x h' => x = nI NA ∧ h' = f_acc h NA t none) := by
  refine qM.of (plainFor_of_name (by decide)) (Nat.le_of_ble_eq_true rfl) ?_
  refine V_aload_n 1 dX7_account_0 rfl rfl ?_
  refine V_iload_n 2 dX7_account_1 rfl rfl ?_
  refine V_cV1r 5 (ten_ok hS ht) cs_X7_43 rfl rfl (by decide) dX7_account_2 rfl ⟨Nat.le_of_ble_eq_true rfl, Nat.le_of_ble_eq_true rfl⟩ (Nat.le_of_ble_eq_true rfl) ⟨Nat.le_of_ble_eq_true rfl, Nat.le_of_ble_eq_true rfl⟩ (fun x h' hx hle => ?_)
  obtain ⟨rfl, rfl⟩ := hx
  refine V_astore_n 6 dX7_account_5 rfl (by decide) ?_
  refine V_aload_n 7 dX7_account_6 rfl rfl ?_
  refine V_iload_n 8 dX7_account_7 rfl rfl ?_
  refine V_cV1r 11 (acc_no e (Or.inl (by decide))) cs_X7_47 rfl rfl (by decide) dX7_account_8 rfl ⟨Nat.le_of_ble_eq_true rfl, Nat.le_of_ble_eq_true rfl⟩ (Nat.le_of_ble_eq_true rfl) ⟨Nat.le_of_ble_eq_true rfl, Nat.le_of_ble_eq_true rfl⟩ (fun x h' hx hle => ?_)
  obtain ⟨rfl, rfl⟩ := hx
  refine V_astore 13 dX7_account_11 rfl (by decide) ?_
  refine V_aload_n 14 dX7_account_13 rfl rfl ?_
  refine V_ifnull 27 17 dX7_account_14 rfl rfl (fun c_14 => ?_) (fun a_14 c_14 => ?_)
  · skip
    cases c_14
  · skip
    cases c_14
    refine V_aload 19 dX7_account_17 rfl rfl ?_
    refine V_ifnonnull 30 22 dX7_account_19 rfl rfl (fun c_19 => ?_) (fun a_19 c_19 => ?_)
    · skip
      refine V_iload_n 23 dX7_account_22 rfl rfl ?_
      refine V_iconst (v := (-1)) 24 dX7_account_23 rfl (by decide) ?_
      refine V_icmp_eq 30 27 dX7_account_24 rfl rfl (fun c_24 => ?_) (fun c_24 => ?_)
      · skip
        refine V_aload 32 dX7_account_30 rfl rfl ?_
        refine V_ifnull 50 35 dX7_account_32 rfl rfl (fun c_32 => ?_) (fun a_32 c_32 => ?_)
        · skip
          refine V_aload_n 51 dX7_account_50 rfl rfl ?_
          refine V_getiV 54 7 6 fl_X7_59 dX7_account_51 rfl rfl (by decide) rfl (by decide) e ?_
          refine V_bipush (v := 24) 56 dX7_account_54 rfl (by decide) ?_
          refine V_icmp_lt 62 59 dX7_account_56 rfl rfl (fun c_56 => ?_) (fun c_56 => ?_)
          · skip
            refine V_aload_n 63 dX7_account_62 rfl rfl ?_
            refine V_getR 66 7 1 fl_X7_17 dX7_account_63 rfl rfl (by decide) (Or.inr ⟨_, rfl⟩) (by decide) (sh_7_1 hS) ?_
            refine V_aload_n 67 dX7_account_66 rfl rfl ?_
            refine V_getiV 70 7 6 fl_X7_59 dX7_account_67 rfl rfl (by decide) rfl (by decide) e ?_
            refine V_newI 73 22 0 dX7_account_70 rfl rfl (by decide) (by decide) wk_X7_15 wn_X0 wi_X0 (Nat.le_of_ble_eq_true rfl) (Nat.le_of_ble_eq_true rfl) (by decide) n22 ?_
            refine V_dup 74 dX7_account_73 rfl ?_
            refine V_aload_n 75 dX7_account_74 rfl rfl ?_
            refine V_getiV 78 7 6 fl_X7_59 dX7_account_75 rfl rfl (by decide) rfl (by decide) e ?_
            refine V_aload_n 79 dX7_account_78 rfl rfl ?_
            refine V_aload 81 dX7_account_79 rfl rfl ?_
            refine V_cI3v 84 (ct_X0_init_n n23 n24 n25 n26) cs_X7_62 dX7_account_81 rfl ⟨Nat.le_of_ble_eq_true rfl, Nat.le_of_ble_eq_true rfl⟩ (Nat.le_of_ble_eq_true rfl) ⟨Nat.le_of_ble_eq_true rfl, Nat.le_of_ble_eq_true rfl⟩ (fun h' hx hle => ?_)
            obtain rfl := hx
            refine V_aastN 85 (_) dX7_account_84 rfl rfl rfl (by decide) (by decide) rfl (show _ < 24 by omega) (by decide) ?_
            refine V_aload_n 86 dX7_account_85 rfl rfl ?_
            refine V_dup 87 dX7_account_86 rfl ?_
            refine V_getiV 90 7 6 fl_X7_59 dX7_account_87 rfl rfl (by decide) rfl (by decide) (show _ = nI NA from e) ?_
            refine V_iconst (v := 1) 91 dX7_account_90 rfl (by decide) ?_
            refine V_iadd 92 dX7_account_91 rfl ?_
            rw [nI_1]
            refine V_puti 95 7 6 fl_X7_59 dX7_account_92 rfl rfl (by decide) rfl (by decide) (Or.inl rfl) ?_
            refine V_aload_n 96 dX7_account_95 rfl rfl ?_
            refine V_getiV 99 7 6 fl_X7_59 dX7_account_96 rfl rfl (by decide) rfl (by decide) (show _ = nI (NA + 1) by simp [qii]) ?_
            refine V_iconst (v := 1) 100 dX7_account_99 rfl (by decide) ?_
            refine V_isub 101 dX7_account_100 rfl ?_
            rw [nI_pred]
            refine V_iret dX7_account_101 rfl rfl ⟨_, rfl, ?_⟩ (by first | exact Nat.le_refl _ | decide | omega) (by first | exact Nat.le_refl _ | decide | omega)
            exact ⟨rfl, rfl⟩
          · skip
            exact absurd (nI_lt (b := 24) hNA (by omega)) c_56
        · skip
          cases c_32
      · skip
        exact absurd rfl c_24
    · skip
      cases c_19
theorem ct_X7_account_in {t b : Nat} (hS : SHC h NA NH NI) (e : qg_i h 1 0 6 = nI NA) (hNA : NA < 24) (hW : WW h NA) (hN : WN h) (n22 : qg_n h 22 = NA) (n23 : qg_n h 23 = NA) (n24 : qg_n h 24 = 4 * NA) (n25 : qg_n h 25 = NA) (n26 : qg_n h 26 = NA) (ht : t < 6) (hb : b < NA) (hbt : ow h b = t) : qM yX7_account cX7_account 5 ((some .int)) 2 44 8 418 [.inr (.inr (some (1, 0))), .inl (nI t), .inl (nI b)] h (pI fun x h' => x = nI NA ∧ h' = f_acc h NA t (some (22, b))) := by
  obtain ⟨w1, w2⟩ := hW.o2 hb
  refine qM.of (plainFor_of_name (by decide)) (Nat.le_of_ble_eq_true rfl) ?_
  refine V_aload_n 1 dX7_account_0 rfl rfl ?_
  refine V_iload_n 2 dX7_account_1 rfl rfl ?_
  refine V_cV1r 5 (ten_ok hS ht) cs_X7_43 rfl rfl (by decide) dX7_account_2 rfl ⟨Nat.le_of_ble_eq_true rfl, Nat.le_of_ble_eq_true rfl⟩ (Nat.le_of_ble_eq_true rfl) ⟨Nat.le_of_ble_eq_true rfl, Nat.le_of_ble_eq_true rfl⟩ (fun x h' hx hle => ?_)
  obtain ⟨rfl, rfl⟩ := hx
  refine V_astore_n 6 dX7_account_5 rfl (by decide) ?_
  refine V_aload_n 7 dX7_account_6 rfl rfl ?_
  refine V_iload_n 8 dX7_account_7 rfl rfl ?_
  refine V_cV1r 11 (acc_ok hS e (by omega) hb) cs_X7_47 rfl rfl (by decide) dX7_account_8 rfl ⟨Nat.le_of_ble_eq_true rfl, Nat.le_of_ble_eq_true rfl⟩ (Nat.le_of_ble_eq_true rfl) ⟨Nat.le_of_ble_eq_true rfl, Nat.le_of_ble_eq_true rfl⟩ (fun x h' hx hle => ?_)
  obtain ⟨rfl, rfl⟩ := hx
  refine V_astore 13 dX7_account_11 rfl (by decide) ?_
  refine V_aload_n 14 dX7_account_13 rfl rfl ?_
  refine V_ifnull 27 17 dX7_account_14 rfl rfl (fun c_14 => ?_) (fun a_14 c_14 => ?_)
  · skip
    cases c_14
  · skip
    cases c_14
    refine V_aload 19 dX7_account_17 rfl rfl ?_
    refine V_ifnonnull 30 22 dX7_account_19 rfl rfl (fun c_19 => ?_) (fun a_19 c_19 => ?_)
    · skip
      cases c_19
    · skip
      cases c_19
      refine V_aload 32 dX7_account_30 rfl rfl ?_
      refine V_ifnull 50 35 dX7_account_32 rfl rfl (fun c_32 => ?_) (fun a_32 c_32 => ?_)
      · skip
        cases c_32
      · skip
        cases c_32
        refine V_aload 37 dX7_account_35 rfl rfl ?_
        refine V_getR 40 0 1 fl_X7_51 dX7_account_37 rfl rfl (by decide) (Or.inl ⟨_, rfl⟩) (by decide) w2 ?_
        refine V_getiV 43 6 0 fl_X7_55 dX7_account_40 rfl rfl (by decide) rfl (by decide) (hN _ w1) ?_
        refine V_iload_n 44 dX7_account_43 rfl rfl ?_
        refine V_icmp_eq 50 47 dX7_account_44 rfl rfl (fun c_44 => ?_) (fun c_44 => ?_)
        · skip
          refine V_aload_n 51 dX7_account_50 rfl rfl ?_
          refine V_getiV 54 7 6 fl_X7_59 dX7_account_51 rfl rfl (by decide) rfl (by decide) e ?_
          refine V_bipush (v := 24) 56 dX7_account_54 rfl (by decide) ?_
          refine V_icmp_lt 62 59 dX7_account_56 rfl rfl (fun c_56 => ?_) (fun c_56 => ?_)
          · skip
            refine V_aload_n 63 dX7_account_62 rfl rfl ?_
            refine V_getR 66 7 1 fl_X7_17 dX7_account_63 rfl rfl (by decide) (Or.inr ⟨_, rfl⟩) (by decide) (sh_7_1 hS) ?_
            refine V_aload_n 67 dX7_account_66 rfl rfl ?_
            refine V_getiV 70 7 6 fl_X7_59 dX7_account_67 rfl rfl (by decide) rfl (by decide) e ?_
            refine V_newI 73 22 0 dX7_account_70 rfl rfl (by decide) (by decide) wk_X7_15 wn_X0 wi_X0 (Nat.le_of_ble_eq_true rfl) (Nat.le_of_ble_eq_true rfl) (by decide) n22 ?_
            refine V_dup 74 dX7_account_73 rfl ?_
            refine V_aload_n 75 dX7_account_74 rfl rfl ?_
            refine V_getiV 78 7 6 fl_X7_59 dX7_account_75 rfl rfl (by decide) rfl (by decide) e ?_
            refine V_aload_n 79 dX7_account_78 rfl rfl ?_
            refine V_aload 81 dX7_account_79 rfl rfl ?_
            refine V_cI3v 84 (ct_X0_init_s n23 n24 n25 n26) cs_X7_62 dX7_account_81 rfl ⟨Nat.le_of_ble_eq_true rfl, Nat.le_of_ble_eq_true rfl⟩ (Nat.le_of_ble_eq_true rfl) ⟨Nat.le_of_ble_eq_true rfl, Nat.le_of_ble_eq_true rfl⟩ (fun h' hx hle => ?_)
            obtain rfl := hx
            refine V_aastN 85 (_) dX7_account_84 rfl rfl rfl (by decide) (by decide) rfl (show _ < 24 by omega) (by decide) ?_
            refine V_aload_n 86 dX7_account_85 rfl rfl ?_
            refine V_dup 87 dX7_account_86 rfl ?_
            refine V_getiV 90 7 6 fl_X7_59 dX7_account_87 rfl rfl (by decide) rfl (by decide) (show _ = nI NA from e) ?_
            refine V_iconst (v := 1) 91 dX7_account_90 rfl (by decide) ?_
            refine V_iadd 92 dX7_account_91 rfl ?_
            rw [nI_1]
            refine V_puti 95 7 6 fl_X7_59 dX7_account_92 rfl rfl (by decide) rfl (by decide) (Or.inl rfl) ?_
            refine V_aload_n 96 dX7_account_95 rfl rfl ?_
            refine V_getiV 99 7 6 fl_X7_59 dX7_account_96 rfl rfl (by decide) rfl (by decide) (show _ = nI (NA + 1) by simp [qii]) ?_
            refine V_iconst (v := 1) 100 dX7_account_99 rfl (by decide) ?_
            refine V_isub 101 dX7_account_100 rfl ?_
            rw [nI_pred]
            refine V_iret dX7_account_101 rfl rfl ⟨_, rfl, ?_⟩ (by first | exact Nat.le_refl _ | decide | omega) (by first | exact Nat.le_refl _ | decide | omega)
            exact ⟨rfl, rfl⟩
          · skip
            exact absurd (nI_lt (b := 24) hNA (by omega)) c_56
        · skip
          exact absurd (by rw [hbt]) c_44
theorem ct_X7_account_full {t : Nat} {inn : Int32} (hS : SHC h 24 NH NI) (e : qg_i h 1 0 6 = nI 24) (hW : WW h 24) (hN : WN h) (ht : t < 6) (hin : inn = -1 ∨ ∃ b, b < 24 ∧ inn = nI b ∧ ow h b = t) : qM yX7_account cX7_account 5 ((some .int)) 2 44 8 418 [.inr (.inr (some (1, 0))), .inl (nI t), .inl inn] h (pI fun x h' => x = -3 ∧ h' = h) := by
  rcases hin with rfl | ⟨b, hb, rfl, hbt⟩
  · refine qM.of (plainFor_of_name (by decide)) (Nat.le_of_ble_eq_true rfl) ?_
    refine V_aload_n 1 dX7_account_0 rfl rfl ?_
    refine V_iload_n 2 dX7_account_1 rfl rfl ?_
    refine V_cV1r 5 (ten_ok hS ht) cs_X7_43 rfl rfl (by decide) dX7_account_2 rfl ⟨Nat.le_of_ble_eq_true rfl, Nat.le_of_ble_eq_true rfl⟩ (Nat.le_of_ble_eq_true rfl) ⟨Nat.le_of_ble_eq_true rfl, Nat.le_of_ble_eq_true rfl⟩ (fun x h' hx hle => ?_)
    obtain ⟨rfl, rfl⟩ := hx
    refine V_astore_n 6 dX7_account_5 rfl (by decide) ?_
    refine V_aload_n 7 dX7_account_6 rfl rfl ?_
    refine V_iload_n 8 dX7_account_7 rfl rfl ?_
    refine V_cV1r 11 (acc_no e (Or.inl (by decide))) cs_X7_47 rfl rfl (by decide) dX7_account_8 rfl ⟨Nat.le_of_ble_eq_true rfl, Nat.le_of_ble_eq_true rfl⟩ (Nat.le_of_ble_eq_true rfl) ⟨Nat.le_of_ble_eq_true rfl, Nat.le_of_ble_eq_true rfl⟩ (fun x h' hx hle => ?_)
    obtain ⟨rfl, rfl⟩ := hx
    refine V_astore 13 dX7_account_11 rfl (by decide) ?_
    refine V_aload_n 14 dX7_account_13 rfl rfl ?_
    refine V_ifnull 27 17 dX7_account_14 rfl rfl (fun c_14 => ?_) (fun a_14 c_14 => ?_)
    · skip
      cases c_14
    · skip
      cases c_14
      refine V_aload 19 dX7_account_17 rfl rfl ?_
      refine V_ifnonnull 30 22 dX7_account_19 rfl rfl (fun c_19 => ?_) (fun a_19 c_19 => ?_)
      · skip
        refine V_iload_n 23 dX7_account_22 rfl rfl ?_
        refine V_iconst (v := (-1)) 24 dX7_account_23 rfl (by decide) ?_
        refine V_icmp_eq 30 27 dX7_account_24 rfl rfl (fun c_24 => ?_) (fun c_24 => ?_)
        · skip
          refine V_aload 32 dX7_account_30 rfl rfl ?_
          refine V_ifnull 50 35 dX7_account_32 rfl rfl (fun c_32 => ?_) (fun a_32 c_32 => ?_)
          · skip
            refine V_aload_n 51 dX7_account_50 rfl rfl ?_
            refine V_getiV 54 7 6 fl_X7_59 dX7_account_51 rfl rfl (by decide) rfl (by decide) e ?_
            refine V_bipush (v := 24) 56 dX7_account_54 rfl (by decide) ?_
            refine V_icmp_lt 62 59 dX7_account_56 rfl rfl (fun c_56 => ?_) (fun c_56 => ?_)
            · skip
              exact absurd c_56 (by decide)
            · skip
              refine V_bipush (v := (-3)) 61 dX7_account_59 rfl (by decide) ?_
              refine V_iret dX7_account_61 rfl rfl ⟨_, rfl, ?_⟩ (by first | exact Nat.le_refl _ | decide | omega) (by first | exact Nat.le_refl _ | decide | omega)
              exact ⟨rfl, rfl⟩
          · skip
            cases c_32
        · skip
          exact absurd rfl c_24
      · skip
        cases c_19
  · obtain ⟨w1, w2⟩ := hW.o2 hb
    refine qM.of (plainFor_of_name (by decide)) (Nat.le_of_ble_eq_true rfl) ?_
    refine V_aload_n 1 dX7_account_0 rfl rfl ?_
    refine V_iload_n 2 dX7_account_1 rfl rfl ?_
    refine V_cV1r 5 (ten_ok hS ht) cs_X7_43 rfl rfl (by decide) dX7_account_2 rfl ⟨Nat.le_of_ble_eq_true rfl, Nat.le_of_ble_eq_true rfl⟩ (Nat.le_of_ble_eq_true rfl) ⟨Nat.le_of_ble_eq_true rfl, Nat.le_of_ble_eq_true rfl⟩ (fun x h' hx hle => ?_)
    obtain ⟨rfl, rfl⟩ := hx
    refine V_astore_n 6 dX7_account_5 rfl (by decide) ?_
    refine V_aload_n 7 dX7_account_6 rfl rfl ?_
    refine V_iload_n 8 dX7_account_7 rfl rfl ?_
    refine V_cV1r 11 (acc_ok hS e (by omega) hb) cs_X7_47 rfl rfl (by decide) dX7_account_8 rfl ⟨Nat.le_of_ble_eq_true rfl, Nat.le_of_ble_eq_true rfl⟩ (Nat.le_of_ble_eq_true rfl) ⟨Nat.le_of_ble_eq_true rfl, Nat.le_of_ble_eq_true rfl⟩ (fun x h' hx hle => ?_)
    obtain ⟨rfl, rfl⟩ := hx
    refine V_astore 13 dX7_account_11 rfl (by decide) ?_
    refine V_aload_n 14 dX7_account_13 rfl rfl ?_
    refine V_ifnull 27 17 dX7_account_14 rfl rfl (fun c_14 => ?_) (fun a_14 c_14 => ?_)
    · skip
      cases c_14
    · skip
      cases c_14
      refine V_aload 19 dX7_account_17 rfl rfl ?_
      refine V_ifnonnull 30 22 dX7_account_19 rfl rfl (fun c_19 => ?_) (fun a_19 c_19 => ?_)
      · skip
        cases c_19
      · skip
        cases c_19
        refine V_aload 32 dX7_account_30 rfl rfl ?_
        refine V_ifnull 50 35 dX7_account_32 rfl rfl (fun c_32 => ?_) (fun a_32 c_32 => ?_)
        · skip
          cases c_32
        · skip
          cases c_32
          refine V_aload 37 dX7_account_35 rfl rfl ?_
          refine V_getR 40 0 1 fl_X7_51 dX7_account_37 rfl rfl (by decide) (Or.inl ⟨_, rfl⟩) (by decide) w2 ?_
          refine V_getiV 43 6 0 fl_X7_55 dX7_account_40 rfl rfl (by decide) rfl (by decide) (hN _ w1) ?_
          refine V_iload_n 44 dX7_account_43 rfl rfl ?_
          refine V_icmp_eq 50 47 dX7_account_44 rfl rfl (fun c_44 => ?_) (fun c_44 => ?_)
          · skip
            refine V_aload_n 51 dX7_account_50 rfl rfl ?_
            refine V_getiV 54 7 6 fl_X7_59 dX7_account_51 rfl rfl (by decide) rfl (by decide) e ?_
            refine V_bipush (v := 24) 56 dX7_account_54 rfl (by decide) ?_
            refine V_icmp_lt 62 59 dX7_account_56 rfl rfl (fun c_56 => ?_) (fun c_56 => ?_)
            · skip
              exact absurd c_56 (by decide)
            · skip
              refine V_bipush (v := (-3)) 61 dX7_account_59 rfl (by decide) ?_
              refine V_iret dX7_account_61 rfl rfl ⟨_, rfl, ?_⟩ (by first | exact Nat.le_refl _ | decide | omega) (by first | exact Nat.le_refl _ | decide | omega)
              exact ⟨rfl, rfl⟩
          · skip
            exact absurd (by rw [hbt]) c_44
theorem ct_X7_account_bad {t inn : Int32} (hS : SHC h NA NH NI) (e : qg_i h 1 0 6 = nI NA) (hNA : NA ≤ 24) (hW : WW h NA) (hN : WN h) (hbad : ¬ ((0 ≤ t ∧ t < 6) ∧ (inn = -1 ∨ ∃ b, b < NA ∧ inn = nI b ∧ nI (ow h b) = t))) : qM yX7_account cX7_account 5 ((some .int)) 2 44 8 418 [.inr (.inr (some (1, 0))), .inl t, .inl inn] h (pI fun x h' => x = -2 ∧ h' = h) := by
  by_cases ht : 0 ≤ t ∧ t < 6
  · obtain ⟨t', ht', rfl⟩ : ∃ b, b < 6 ∧ t = nI b := ix_of (n := 6) (by decide) ht
    have h1 : ¬ inn = -1 := fun q => hbad ⟨ht, Or.inl q⟩
    rcases ix_c (x := inn) (n := NA) (by omega) with z | ⟨b, hb, rfl⟩
    · refine qM.of (plainFor_of_name (by decide)) (Nat.le_of_ble_eq_true rfl) ?_
      refine V_aload_n 1 dX7_account_0 rfl rfl ?_
      refine V_iload_n 2 dX7_account_1 rfl rfl ?_
      refine V_cV1r 5 (ten_ok hS ht') cs_X7_43 rfl rfl (by decide) dX7_account_2 rfl ⟨Nat.le_of_ble_eq_true rfl, Nat.le_of_ble_eq_true rfl⟩ (Nat.le_of_ble_eq_true rfl) ⟨Nat.le_of_ble_eq_true rfl, Nat.le_of_ble_eq_true rfl⟩ (fun x h' hx hle => ?_)
      obtain ⟨rfl, rfl⟩ := hx
      refine V_astore_n 6 dX7_account_5 rfl (by decide) ?_
      refine V_aload_n 7 dX7_account_6 rfl rfl ?_
      refine V_iload_n 8 dX7_account_7 rfl rfl ?_
      refine V_cV1r 11 (acc_no e z) cs_X7_47 rfl rfl (by decide) dX7_account_8 rfl ⟨Nat.le_of_ble_eq_true rfl, Nat.le_of_ble_eq_true rfl⟩ (Nat.le_of_ble_eq_true rfl) ⟨Nat.le_of_ble_eq_true rfl, Nat.le_of_ble_eq_true rfl⟩ (fun x h' hx hle => ?_)
      obtain ⟨rfl, rfl⟩ := hx
      refine V_astore 13 dX7_account_11 rfl (by decide) ?_
      refine V_aload_n 14 dX7_account_13 rfl rfl ?_
      refine V_ifnull 27 17 dX7_account_14 rfl rfl (fun c_14 => ?_) (fun a_14 c_14 => ?_)
      · skip
        cases c_14
      · skip
        cases c_14
        refine V_aload 19 dX7_account_17 rfl rfl ?_
        refine V_ifnonnull 30 22 dX7_account_19 rfl rfl (fun c_19 => ?_) (fun a_19 c_19 => ?_)
        · skip
          refine V_iload_n 23 dX7_account_22 rfl rfl ?_
          refine V_iconst (v := (-1)) 24 dX7_account_23 rfl (by decide) ?_
          refine V_icmp_eq 30 27 dX7_account_24 rfl rfl (fun c_24 => ?_) (fun c_24 => ?_)
          · skip
            exact absurd c_24 h1
          · skip
            refine V_bipush (v := (-2)) 29 dX7_account_27 rfl (by decide) ?_
            refine V_iret dX7_account_29 rfl rfl ⟨_, rfl, ?_⟩ (by first | exact Nat.le_refl _ | decide | omega) (by first | exact Nat.le_refl _ | decide | omega)
            exact ⟨rfl, rfl⟩
        · skip
          cases c_19
    · obtain ⟨w1, w2⟩ := hW.o2 hb
      have h2 : ¬ nI (ow h b) = nI t' := fun q => hbad ⟨ht, Or.inr ⟨b, hb, rfl, q⟩⟩
      refine qM.of (plainFor_of_name (by decide)) (Nat.le_of_ble_eq_true rfl) ?_
      refine V_aload_n 1 dX7_account_0 rfl rfl ?_
      refine V_iload_n 2 dX7_account_1 rfl rfl ?_
      refine V_cV1r 5 (ten_ok hS ht') cs_X7_43 rfl rfl (by decide) dX7_account_2 rfl ⟨Nat.le_of_ble_eq_true rfl, Nat.le_of_ble_eq_true rfl⟩ (Nat.le_of_ble_eq_true rfl) ⟨Nat.le_of_ble_eq_true rfl, Nat.le_of_ble_eq_true rfl⟩ (fun x h' hx hle => ?_)
      obtain ⟨rfl, rfl⟩ := hx
      refine V_astore_n 6 dX7_account_5 rfl (by decide) ?_
      refine V_aload_n 7 dX7_account_6 rfl rfl ?_
      refine V_iload_n 8 dX7_account_7 rfl rfl ?_
      refine V_cV1r 11 (acc_ok hS e (by omega) hb) cs_X7_47 rfl rfl (by decide) dX7_account_8 rfl ⟨Nat.le_of_ble_eq_true rfl, Nat.le_of_ble_eq_true rfl⟩ (Nat.le_of_ble_eq_true rfl) ⟨Nat.le_of_ble_eq_true rfl, Nat.le_of_ble_eq_true rfl⟩ (fun x h' hx hle => ?_)
      obtain ⟨rfl, rfl⟩ := hx
      refine V_astore 13 dX7_account_11 rfl (by decide) ?_
      refine V_aload_n 14 dX7_account_13 rfl rfl ?_
      refine V_ifnull 27 17 dX7_account_14 rfl rfl (fun c_14 => ?_) (fun a_14 c_14 => ?_)
      · skip
        cases c_14
      · skip
        cases c_14
        refine V_aload 19 dX7_account_17 rfl rfl ?_
        refine V_ifnonnull 30 22 dX7_account_19 rfl rfl (fun c_19 => ?_) (fun a_19 c_19 => ?_)
        · skip
          cases c_19
        · skip
          cases c_19
          refine V_aload 32 dX7_account_30 rfl rfl ?_
          refine V_ifnull 50 35 dX7_account_32 rfl rfl (fun c_32 => ?_) (fun a_32 c_32 => ?_)
          · skip
            cases c_32
          · skip
            cases c_32
            refine V_aload 37 dX7_account_35 rfl rfl ?_
            refine V_getR 40 0 1 fl_X7_51 dX7_account_37 rfl rfl (by decide) (Or.inl ⟨_, rfl⟩) (by decide) w2 ?_
            refine V_getiV 43 6 0 fl_X7_55 dX7_account_40 rfl rfl (by decide) rfl (by decide) (hN _ w1) ?_
            refine V_iload_n 44 dX7_account_43 rfl rfl ?_
            refine V_icmp_eq 50 47 dX7_account_44 rfl rfl (fun c_44 => ?_) (fun c_44 => ?_)
            · skip
              exact absurd c_44 h2
            · skip
              refine V_bipush (v := (-2)) 49 dX7_account_47 rfl (by decide) ?_
              refine V_iret dX7_account_49 rfl rfl ⟨_, rfl, ?_⟩ (by first | exact Nat.le_refl _ | decide | omega) (by first | exact Nat.le_refl _ | decide | omega)
              exact ⟨rfl, rfl⟩
  · have M : ∃ o, qM yX7_accountAt cX7_accountAt 2 ((some (.object "QuotaMeter$Account"))) 0 0 0 0 [.inr (.inr (some (1, 0))), .inl inn] h (pR fun x h' => x = o ∧ h' = h) := by
      rcases ix_c (x := inn) (n := NA) (by omega) with z | ⟨b, hb, rfl⟩
      · exact ⟨_, acc_no e z⟩
      · exact ⟨_, acc_ok hS e hNA hb⟩
    obtain ⟨o, M⟩ := M
    refine qM.of (plainFor_of_name (by decide)) (Nat.le_of_ble_eq_true rfl) ?_
    refine V_aload_n 1 dX7_account_0 rfl rfl ?_
    refine V_iload_n 2 dX7_account_1 rfl rfl ?_
    refine V_cV1r 5 (ten_no ht) cs_X7_43 rfl rfl (by decide) dX7_account_2 rfl ⟨Nat.le_of_ble_eq_true rfl, Nat.le_of_ble_eq_true rfl⟩ (Nat.le_of_ble_eq_true rfl) ⟨Nat.le_of_ble_eq_true rfl, Nat.le_of_ble_eq_true rfl⟩ (fun x h' hx hle => ?_)
    obtain ⟨rfl, rfl⟩ := hx
    refine V_astore_n 6 dX7_account_5 rfl (by decide) ?_
    refine V_aload_n 7 dX7_account_6 rfl rfl ?_
    refine V_iload_n 8 dX7_account_7 rfl rfl ?_
    refine V_cV1r 11 M cs_X7_47 rfl rfl (by decide) dX7_account_8 rfl ⟨Nat.le_of_ble_eq_true rfl, Nat.le_of_ble_eq_true rfl⟩ (Nat.le_of_ble_eq_true rfl) ⟨Nat.le_of_ble_eq_true rfl, Nat.le_of_ble_eq_true rfl⟩ (fun x h' hx hle => ?_)
    obtain ⟨rfl, rfl⟩ := hx
    refine V_astore 13 dX7_account_11 rfl (by decide) ?_
    refine V_aload_n 14 dX7_account_13 rfl rfl ?_
    refine V_ifnull 27 17 dX7_account_14 rfl rfl (fun c_14 => ?_) (fun a_14 c_14 => ?_)
    · skip
      refine V_bipush (v := (-2)) 29 dX7_account_27 rfl (by decide) ?_
      refine V_iret dX7_account_29 rfl rfl ⟨_, rfl, ?_⟩ (by first | exact Nat.le_refl _ | decide | omega) (by first | exact Nat.le_refl _ | decide | omega)
      exact ⟨rfl, rfl⟩
    · skip
      cases c_14
/-- usage billed -/
def f_b1 (h : qH) (NA t i p : Nat) (kr : Nat → Nat) (g0 : qH × Nat) : Nat → qH × Nat
  | 0 => g0
  | r + 1 => if 0 < f_qty h NA t r p then (f_line (f_b1 h NA t i p kr g0 r).1 i (f_b1 h NA t i p kr g0 r).2 0 (nI r) (f_qty h NA t r p) (f_cost h (8 * t + 2 * r) (kr r) (f_qty h NA t r p)), (f_b1 h NA t i p kr g0 r).2 + 1) else f_b1 h NA t i p kr g0 r
theorem f_line_1 {i lc : Nat} {kd rs : Int32} {q m : Int64} (k : Nat) (hk : k ≠ 6) : qg_i (f_line h i lc kd rs q m) 28 i k = qg_i h 28 i k := by
  simp [f_line, qii, qil, hk]
theorem b1_fr {NA t i p lm : Nat} {kr : Nat → Nat} {g0 : qH × Nat} (C : LFs h i lm g0) (e1 : qg_i g0.1 28 i 1 = nI p) : ∀ r, LFs h i (lm + r) (f_b1 h NA t i p kr g0 r) ∧ qg_i (f_b1 h NA t i p kr g0 r).1 28 i 1 = nI p
  | 0 => ⟨C, e1⟩
  | r + 1 => by
    obtain ⟨c, d⟩ := b1_fr (NA := NA) (t := t) (kr := kr) C e1 r
    unfold f_b1
    split
    · exact ⟨c.line _ _ _ _, (f_line_1 1 (by decide)).trans d⟩
    · exact ⟨c.up (by omega), d⟩
theorem f_qty_congr {g : qH} {na t r p : Nat} (h1 : qg_r g = qg_r h) (h2 : ∀ b k, qg_l g 24 b k = qg_l h 24 b k) : f_qty g na t r p = f_qty h na t r p := by
  have e1 : par g = par h := by funext a; simp only [par, h1]
  have e2 : ow g = ow h := by funext a; simp only [ow, h1]
  unfold f_qty
  refine sm_l_congr (fun a _ => ?_)
  unfold f_q1
  rw [e1, e2, h2]
theorem f_cost_congr {g : qH} {p k : Nat} {n : Int64} (h1 : ∀ k, qg_i g 18 p k = qg_i h 18 p k) (h2 : ∀ j, qg_l g 19 p j = qg_l h 19 p j ∧ qg_i g 20 p j = qg_i h 20 p j ∧ qg_i g 21 p j = qg_i h 21 p j) : f_cost g p k n = f_cost h p k n := by
  simp only [f_cost, f_cst, h1, (h2 _).1, (h2 _).2.1, (h2 _).2.2]
def WPC (h : qH) (t : Nat) (kr : Nat → Nat) : Prop := ∀ r, r < 4 → kr r < 5 ∧ 1 ≤ qg_i h 18 (8 * t + 2 * r) 5 ∧ qg_i h 18 (8 * t + 2 * r) 3 = nI (kr r + 1)
theorem LFs.qty {i lm na t r p : Nat} {g : qH × Nat} (C : LFs h i lm g) : f_qty g.1 na t r p = f_qty h na t r p := f_qty_congr C.1.2 (fun b k => C.2.2.2.2 24 b k (by decide) (by decide) (by decide))
theorem LFs.cost {i lm p k : Nat} {n : Int64} {g : qH × Nat} (C : LFs h i lm g) : f_cost g.1 p k n = f_cost h p k n := f_cost_congr (fun k => C.2.2.2.1 18 p k (by decide) (by decide) (by decide)) (fun j => ⟨C.2.2.2.2 19 p j (by decide) (by decide) (by decide), C.2.2.2.1 20 p j (by decide) (by decide) (by decide), C.2.2.2.1 21 p j (by decide) (by decide) (by decide)⟩)
theorem lp_X7_bill {t i p lm : Nat} {kr : Nat → Nat} {g0 : qH × Nat} (hS : SHC h NA NH NI) (hI : IFs h i) (e : qg_i h 1 0 6 = nI NA) (hNA : NA ≤ 24) (hO : WO h NA) (hW : WW h NA) (hN : WN h) (ht : t < 6) (hp : p < 100) (hK : WPC h t kr) (C : LFs h i lm g0) (e1 : qg_i g0.1 28 i 1 = nI p) (hlm : lm ≤ 10) {n0 : Nat → Nat} {Post : Option qV → qH → Prop} (hP : Post none (f_b1 h NA t i p kr g0 4).1) :
    ∀ (m r : Nat), r + m = 4 → Vw yX7_billUsage cX7_billUsage 6 none (qrm 3 74 0 0) 0 0 n0 Post 2 [(0, .inr (.inr (some (1, 0)))), (1, .inr (.inr (some (28, i)))), (2, .inr (.inr (some (10, t)))), (3, .inl (nI r))] [] (f_b1 h NA t i p kr g0 r).1 0 0 := by
  intro m
  induction m with
  | zero =>
    intro r hr
    have hr : r = 4 := by omega
    subst hr
    refine V_iload_n 3 dX7_billUsage_2 rfl rfl ?_
    refine V_iconst (v := 4) 4 dX7_billUsage_3 rfl (by decide) ?_
    refine V_icmp_ge 51 7 dX7_billUsage_4 rfl rfl (fun c_4 => ?_) (fun c_4 => ?_)
    · skip
      refine V_vret dX7_billUsage_51 rfl ?_ (by first | exact Nat.le_refl _ | decide | omega) (by first | exact Nat.le_refl _ | decide | omega)
      exact hP
    · skip
      exact absurd (by decide) c_4
  | succ m ih =>
    intro r hr
    obtain ⟨c, d⟩ := b1_fr (NA := NA) (t := t) (kr := kr) C e1 r
    have ih := ih (r + 1) (by omega)
    have hl := c.2.2.1
    obtain ⟨k1, k2, k3⟩ := hK r (by omega)
    unfold f_b1 at ih
    have hSg := c.shc hS
    generalize hG : f_b1 h NA t i p kr g0 r = G at *
    have eg : qg_i G.1 1 0 6 = nI NA := (c.2.2.2.1 1 0 6 (by decide) (by decide) (by decide)).trans e
    have hOg : WO G.1 NA := by unfold WO; rw [c.1.2]; exact hO
    have hWg : WW G.1 NA := by unfold WW; rw [c.1.2]; exact hW
    have hNg : WN G.1 := fun t ht => (c.2.2.2.1 10 t 0 (by decide) (by decide) (by decide)).trans (hN t ht)
    refine V_iload_n 3 dX7_billUsage_2 rfl rfl ?_
    refine V_iconst (v := 4) 4 dX7_billUsage_3 rfl (by decide) ?_
    refine V_icmp_ge 51 7 dX7_billUsage_4 rfl rfl (fun c_4 => ?_) (fun c_4 => ?_)
    · skip
      exact absurd c_4 (nI_ge (b := 4) (by omega) (by omega))
    · skip
      refine V_aload_n 8 dX7_billUsage_7 rfl rfl ?_
      refine V_aload_n 9 dX7_billUsage_8 rfl rfl ?_
      refine V_iload_n 10 dX7_billUsage_9 rfl rfl ?_
      refine V_aload_n 11 dX7_billUsage_10 rfl rfl ?_
      refine V_getiV 14 3 1 fl_X7_266 dX7_billUsage_11 rfl rfl (by decide) rfl (by decide) d ?_
      refine V_cV3l 17 (ct_X7_quantityOf hSg eg hNA hOg hWg hNg ht (by omega) hp) cs_X7_285 rfl rfl (by decide) dX7_billUsage_14 rfl ⟨Nat.le_of_ble_eq_true rfl, Nat.le_of_ble_eq_true rfl⟩ (Nat.le_of_ble_eq_true rfl) ⟨Nat.le_of_ble_eq_true rfl, Nat.le_of_ble_eq_true rfl⟩ (fun x h' hx hle => ?_)
      obtain ⟨rfl, rfl⟩ := hx
      rw [c.qty]
      refine V_lstore 19 dX7_billUsage_17 rfl (by decide) ?_
      refine V_lload 21 dX7_billUsage_19 rfl rfl ?_
      refine V_lconst (v := 0) 22 dX7_billUsage_21 rfl (by decide) ?_
      refine V_lcmp 23 dX7_billUsage_22 rfl ?_
      refine V_if_le 45 26 dX7_billUsage_23 rfl rfl (fun c_23 => ?_) (fun c_23 => ?_)
      · (rw [lg_le] at c_23)
        rw [if_neg (by grind)] at ih
        refine V_iincN 48 dX7_billUsage_45 rfl rfl (by decide) ?_
        refine V_goto 2 dX7_billUsage_48 rfl ?_
        exact V_at ih ⟨rfl, rfl, rfl, rfl, trivial⟩
      · (rw [lg_le] at c_23)
        rw [if_pos (by grind)] at ih
        refine V_aload_n 27 dX7_billUsage_26 rfl rfl ?_
        refine V_iconst (v := 0) 28 dX7_billUsage_27 rfl (by decide) ?_
        refine V_iload_n 29 dX7_billUsage_28 rfl rfl ?_
        refine V_lload 31 dX7_billUsage_29 rfl rfl ?_
        refine V_aload_n 32 dX7_billUsage_31 rfl rfl ?_
        refine V_getR 35 6 1 fl_X7_281 dX7_billUsage_32 rfl rfl (by decide) (Or.inr ⟨_, rfl⟩) (by decide) (sh_6_1 hSg (by omega)) ?_
        refine V_iload_n 36 dX7_billUsage_35 rfl rfl ?_
        refine V_aaldR 37 (_) dX7_billUsage_36 rfl rfl (Or.inl ⟨_, rfl⟩) (by decide) rfl (show _ < 4 by omega) (by decide) (sa_11 hSg (by omega) (by omega)) ?_
        refine V_lload 39 dX7_billUsage_37 rfl rfl ?_
        refine V_cV1l 42 (ct_X5_costOf (k := kr r) hSg (by omega) k1 (by rw [c.2.2.2.1 18 _ _ (by decide) (by decide) (by decide)]; exact k2) (by rw [c.2.2.2.1 18 _ _ (by decide) (by decide) (by decide)]; exact k3)) cs_X7_169 rfl rfl (by decide) dX7_billUsage_39 rfl ⟨Nat.le_of_ble_eq_true rfl, Nat.le_of_ble_eq_true rfl⟩ (Nat.le_of_ble_eq_true rfl) ⟨Nat.le_of_ble_eq_true rfl, Nat.le_of_ble_eq_true rfl⟩ (fun x h' hx hle => ?_)
        obtain ⟨rfl, rfl⟩ := hx
        rw [c.cost]
        refine V_cV4v 45 (ct_X3_add (c.ifs hI) c.2.1 (by omega)) cs_X7_300 rfl rfl (by decide) dX7_billUsage_42 rfl ⟨Nat.le_of_ble_eq_true rfl, Nat.le_of_ble_eq_true rfl⟩ (Nat.le_of_ble_eq_true rfl) ⟨Nat.le_of_ble_eq_true rfl, Nat.le_of_ble_eq_true rfl⟩ (fun h' hx hle => ?_)
        obtain rfl := hx
        refine V_iincN 48 dX7_billUsage_45 rfl rfl (by decide) ?_
        refine V_goto 2 dX7_billUsage_48 rfl ?_
        exact V_at ih ⟨rfl, rfl, rfl, rfl, trivial⟩
theorem ct_X7_billUsage {t i p lm : Nat} {kr : Nat → Nat} {g0 : qH × Nat} (hS : SHC h NA NH NI) (hI : IFs h i) (e : qg_i h 1 0 6 = nI NA) (hNA : NA ≤ 24) (hO : WO h NA) (hW : WW h NA) (hN : WN h) (ht : t < 6) (hp : p < 100) (hK : WPC h t kr) (C : LFs h i lm g0) (e1 : qg_i g0.1 28 i 1 = nI p) (hlm : lm ≤ 10) : qM yX7_billUsage cX7_billUsage 6 none 3 74 0 0 [.inr (.inr (some (1, 0))), .inr (.inr (some (28, i))), .inr (.inr (some (10, t)))] g0.1 (pV fun h' => h' = (f_b1 h NA t i p kr g0 4).1) := by
  refine qM.of (plainFor_of_name (by decide)) (Nat.le_of_ble_eq_true rfl) ?_
  refine V_iconst (v := 0) 1 dX7_billUsage_0 rfl (by decide) ?_
  refine V_istore_n 2 dX7_billUsage_1 rfl (by decide) ?_
  exact V_at (lp_X7_bill hS hI e hNA hO hW hN ht hp hK C e1 hlm ⟨rfl, rfl⟩ 4 0 (by omega)) ⟨rfl, rfl, rfl, rfl, trivial⟩
theorem ct_X6_billAdj {t i lm : Nat} {g0 : qH × Nat} (hS : SHC h NA NH NI) (hI : IFs h i) (ht : t < 6) (C : LFs h i lm g0) (hlm : lm ≤ 10) : qM yX6_billAdjustments cX6_billAdjustments 3 none 1 26 0 0 [.inr (.inr (some (10, t))), .inr (.inr (some (28, i)))] g0.1 (pV fun h' => h' = (f_b2 h t i g0 4).1) := by
  refine qM.of (plainFor_of_name (by decide)) (Nat.le_of_ble_eq_true rfl) ?_
  refine V_iconst (v := 0) 1 dX6_billAdjustments_0 rfl (by decide) ?_
  refine V_istore_n 2 dX6_billAdjustments_1 rfl (by decide) ?_
  exact V_at (lp_X6_bill (g0 := g0) hS hI ht C hlm ⟨rfl, rfl⟩ 4 0 (by omega)) ⟨rfl, rfl, rfl, trivial⟩
theorem f_ucr_fr {t nc i : Nat} : ∀ (f : Nat) (g : qH) (lc : Nat), (qg_n (f_ucr t nc i f g lc) = qg_n g ∧ qg_r (f_ucr t nc i f g lc) = qg_r g) ∧ (∀ a b k, a ≠ 28 → a ≠ 29 → a ≠ 30 → qg_i (f_ucr t nc i f g lc) a b k = qg_i g a b k) ∧ (∀ a b k, a ≠ 16 → a ≠ 28 → a ≠ 31 → a ≠ 32 → qg_l (f_ucr t nc i f g lc) a b k = qg_l g a b k) := by
  intro f
  induction f with
  | zero => intro g lc; exact ⟨⟨rfl, rfl⟩, fun _ _ _ _ _ _ => rfl, fun _ _ _ _ _ _ _ => rfl⟩
  | succ f ih =>
    intro g lc
    unfold f_ucr
    split
    · split
      · exact ⟨⟨rfl, rfl⟩, fun _ _ _ _ _ _ => rfl, fun _ _ _ _ _ _ _ => rfl⟩
      · rename_i b _
        obtain ⟨⟨a1, a2⟩, a3, a4⟩ := ih (fu1 g t i lc b) (lc + 1)
        obtain ⟨l1, -, -, l4, l5⟩ := f_line_fr (h := qs_l g 16 t b (f_cf g t b - m_min (f_cf g t b) (qg_l g 28 i 7))) (i := i) (lc := lc) (kd := 5) (rs := -1) (q := 0) (m := -(m_min (f_cf g t b) (qg_l g 28 i 7)))
        refine ⟨⟨a1.trans l1.1, a2.trans l1.2⟩, fun a b k h1 h2 h3 => (a3 a b k h1 h2 h3).trans (l4 a b k h1 h2 h3), fun a b k h1 h2 h3 h4 => (a4 a b k h1 h2 h3 h4).trans ((l5 a b k h2 h3 h4).trans ?_)⟩
        rw [qll, if_neg (fun q => h1 q.1)]
    · exact ⟨⟨rfl, rfl⟩, fun _ _ _ _ _ _ => rfl, fun _ _ _ _ _ _ _ => rfl⟩
def f_h1 (h : qH) (NI t p : Nat) : qH := f_3 (qs_n h 28) NI (nI t) (nI p)
def f_G1 (h : qH) (NA NI t p : Nat) (kr : Nat → Nat) : qH × Nat := f_b1 (f_h1 h NI t p) NA t NI p kr (f_h1 h NI t p, 0) 4
def f_G2 (h : qH) (NA NI t p : Nat) (kr : Nat → Nat) : qH × Nat := f_b2 (f_h1 h NI t p) t NI (f_G1 h NA NI t p kr) 4
def f_G3 (h : qH) (NA NI t p : Nat) (kr : Nat → Nat) : qH × Nat := f_T3 (f_h1 h NI t p) t NI (f_T2 (f_h1 h NI t p) t NI (f_T1 (f_h1 h NI t p) t NI (f_G2 h NA NI t p kr)))
def f_close (h : qH) (NA NI t p nc : Nat) (kr : Nat → Nat) : qH := qs_i (qs_r (f_end (f_ucr t nc NI 10 (f_G3 h NA NI t p kr).1 (f_G3 h NA NI t p kr).2) t nc p) 5 0 NI (some (28, NI))) 1 0 9 (nI (NI + 1))
theorem f_G_fr {NA NI t p : Nat} {kr : Nat → Nat} (h0 : qg_i h 28 NI 6 = 0) : (LFs (f_h1 h NI t p) NI 4 (f_G1 h NA NI t p kr)) ∧ LFs (f_h1 h NI t p) NI 8 (f_G2 h NA NI t p kr) ∧ LFs (f_h1 h NI t p) NI 11 (f_G3 h NA NI t p kr) := by
  have C0 : LFs (f_h1 h NI t p) NI 0 (f_h1 h NI t p, 0) := ⟨⟨rfl, rfl⟩, by
    show qg_i (f_h1 h NI t p) 28 NI 6 = 0
    rw [← h0]
    simp [f_h1, f_3, qii, qir, qin], Nat.le_refl _, fun _ _ _ _ _ _ => rfl, fun _ _ _ _ _ _ => rfl⟩
  have C1 := (b1_fr (NA := NA) (t := t) (kr := kr) (p := p) C0 (by simp [f_h1, f_3, qii, qir, qin]) 4).1
  have C2 := b2_fr (t := t) C1 4
  exact ⟨C1, C2, f_t1_fr (f_t1_fr (f_t1_fr C2 _ _) _ _) _ _⟩
theorem f_end_i {t nc p a b k : Nat} (h1 : a ≠ 10) (h2 : a ≠ 18) (h3 : a ≠ 20) (h4 : a ≠ 21) : qg_i (f_end h t nc p) a b k = qg_i h a b k := by
  obtain ⟨z1, -, -, -⟩ := e1_fr (h := h) (t := t) 4
  rw [← z1 a b k h2 h3 h4]
  show qg_i (qs_i (enF (f_e1 h t 4) t nc (nI p)) 10 t 6 (nI (p + 1))) a b k = _
  rw [qii, if_neg (fun q => h1 q.1)]
  rfl
theorem f_end_r {t nc p : Nat} : qg_r (f_end h t nc p) = qg_r h := (e1_fr (h := h) (t := t) 4).2.2.2
theorem f_end_n {t nc p : Nat} : qg_n (f_end h t nc p) = qg_n h := (e1_fr (h := h) (t := t) 4).2.2.1
theorem ct_X7_close_ok {t p nc : Nat} {kr : Nat → Nat} (hS : SHC h NA NH NI) (e : qg_i h 1 0 6 = nI NA) (hNA : NA ≤ 24) (hO : WO h NA) (hW : WW h NA) (hN : WN h) (ht : t < 6) (hp : p < 100) (hK : WPC h t kr) (ep : qg_i h 10 t 6 = nI p) (hnow : nI (1000 * (p + 1)) ≤ qg_i h 1 0 5) (ei : qg_i h 1 0 9 = nI NI) (hNI : NI < 60) (n28 : qg_n h 28 = NI) (n29 : qg_n h 29 = NI) (n30 : qg_n h 30 = NI) (n31 : qg_n h 31 = NI) (n32 : qg_n h 32 = NI) (h0 : qg_i h 28 NI 6 = 0) (ec : qg_i h 15 t 2 = nI nc) (hnc : nc ≤ 40) : qM yX7_close cX7_close 4 ((some .int)) 4 99 5 92 [.inr (.inr (some (1, 0))), .inl (nI t)] h (pI fun x h' => x = nI NI ∧ h' = f_close h NA NI t p nc kr) := by
  have em : nI (p + 1) * 1000 = nI (1000 * (p + 1)) := by rw [show (1000 : Int32) = nI 1000 from rfl, pk_mul, Nat.mul_comm]
  have hr1 : ∀ a, a ≠ 28 → qg_r (f_h1 h NI t p) a = qg_r h a := fun a ha => by
    funext x y
    simp [f_h1, f_3, qri, qrr, qrn, ha]
  have hi1 : ∀ a, a ≠ 28 → qg_i (f_h1 h NI t p) a = qg_i h a := fun a ha => by
    funext x y
    simp [f_h1, f_3, qii, qir, qin, ha]
  have hl1 : qg_l (f_h1 h NI t p) = qg_l h := rfl
  have hS1 : SHC (f_h1 h NI t p) NA NH NI := by
    refine ⟨hS.1, hS.2.1, hS.2.2.1, hS.2.2.2.1, hS.2.2.2.2.1, hS.2.2.2.2.2.1, fun i hi => ?_⟩
    have q := hS.2.2.2.2.2.2 i hi
    have : i ≠ NI := by omega
    simp only [hr1 5 (by decide)]
    simpa [f_h1, f_3, qri, qrr, qrn, this] using q
  have hI1 : IFs (f_h1 h NI t p) NI := by
    simp [IFs, f_h1, f_3, qri, qrr, qrn]
  obtain ⟨C1, C2, C3⟩ := f_G_fr (NA := NA) (NI := NI) (t := t) (p := p) (kr := kr) h0
  have hO1 : WO (f_h1 h NI t p) NA := by unfold WO; rw [hr1 22 (by decide)]; exact hO
  have hW1 : WW (f_h1 h NI t p) NA := by unfold WW; rw [hr1 22 (by decide)]; exact hW
  have hN1 : WN (f_h1 h NI t p) := by unfold WN; rw [hi1 10 (by decide)]; exact hN
  have hK1 : WPC (f_h1 h NI t p) t kr := by unfold WPC; rw [hi1 18 (by decide)]; exact hK
  have C0 : LFs (f_h1 h NI t p) NI 0 (f_h1 h NI t p, 0) := ⟨⟨rfl, rfl⟩, by
    show qg_i (f_h1 h NI t p) 28 NI 6 = 0
    rw [← h0]
    simp [f_h1, f_3, qii, qir, qin], Nat.le_refl _, fun _ _ _ _ _ _ => rfl, fun _ _ _ _ _ _ => rfl⟩
  have hcl : f_close h NA NI t p nc kr = qs_i (qs_r (f_end (f_ucr t nc NI 10 (f_G3 h NA NI t p kr).1 (f_G3 h NA NI t p kr).2) t nc p) 5 0 NI (some (28, NI))) 1 0 9 (nI (NI + 1)) := rfl
  have hT : (f_T3 (f_h1 h NI t p) t NI (f_T2 (f_h1 h NI t p) t NI (f_T1 (f_h1 h NI t p) t NI (f_G2 h NA NI t p kr)))) = f_G3 h NA NI t p kr := rfl
  generalize f_G3 h NA NI t p kr = G3 at C3 hcl hT
  obtain ⟨⟨u1, u2⟩, u3, u4⟩ := f_ucr_fr (t := t) (nc := nc) (i := NI) 10 G3.1 G3.2
  have ec3 : qg_i G3.1 15 t 2 = nI nc := (C3.2.2.2.1 15 t 2 (by decide) (by decide) (by decide)).trans (by rw [hi1 15 (by decide)]; exact ec)
  generalize hU : f_ucr t nc NI 10 G3.1 G3.2 = U at u1 u2 u3 u4 hcl
  have hSu : SHC U NA NH NI := by unfold SHC; rw [u2]; exact C3.shc hS1
  have ecu := (u3 15 t 2 (by decide) (by decide) (by decide)).trans ec3
  have epu : qg_i U 10 t 6 = nI p := (u3 10 t 6 (by decide) (by decide) (by decide)).trans ((C3.2.2.2.1 10 t 6 (by decide) (by decide) (by decide)).trans (by rw [hi1 10 (by decide)]; exact ep))
  have eiu : qg_i (f_end U t nc p) 1 0 9 = nI NI := by
    rw [f_end_i (by decide) (by decide) (by decide) (by decide)]
    refine (u3 1 0 9 (by decide) (by decide) (by decide)).trans ((C3.2.2.2.1 1 0 9 (by decide) (by decide) (by decide)).trans ?_)
    rw [hi1 1 (by decide)]
    exact ei
  have e5 : qg_r (f_end U t nc p) = qg_r (f_h1 h NI t p) := f_end_r.trans (u2.trans C3.1.2)
  generalize hE : f_end U t nc p = E at eiu e5 hcl
  rw [hcl]
  refine qM.of (plainFor_of_name (by decide)) (Nat.le_of_ble_eq_true rfl) ?_
  refine V_aload_n 1 dX7_close_0 rfl rfl ?_
  refine V_iload_n 2 dX7_close_1 rfl rfl ?_
  refine V_cV1r 5 (ten_ok hS ht) cs_X7_43 rfl rfl (by decide) dX7_close_2 rfl ⟨Nat.le_of_ble_eq_true rfl, Nat.le_of_ble_eq_true rfl⟩ (Nat.le_of_ble_eq_true rfl) ⟨Nat.le_of_ble_eq_true rfl, Nat.le_of_ble_eq_true rfl⟩ (fun x h' hx hle => ?_)
  obtain ⟨rfl, rfl⟩ := hx
  refine V_astore_n 6 dX7_close_5 rfl (by decide) ?_
  refine V_aload_n 7 dX7_close_6 rfl rfl ?_
  refine V_ifnonnull 13 10 dX7_close_7 rfl rfl (fun c_7 => ?_) (fun a_7 c_7 => ?_)
  · skip
    cases c_7
  · skip
    cases c_7
    refine V_aload_n 14 dX7_close_13 rfl rfl ?_
    refine V_geti 17 7 5 fl_X7_65 dX7_close_14 rfl rfl (by decide) rfl (by decide) ?_
    refine V_aload_n 18 dX7_close_17 rfl rfl ?_
    refine V_getiV 21 6 6 fl_X7_191 dX7_close_18 rfl rfl (by decide) rfl (by decide) ep ?_
    refine V_iconst (v := 1) 22 dX7_close_21 rfl (by decide) ?_
    refine V_iadd 23 dX7_close_22 rfl ?_
    rw [nI_1]
    refine V_sipush (v := 1000) 26 dX7_close_23 rfl (by decide) ?_
    refine V_imul 27 dX7_close_26 rfl ?_
    rw [em]
    refine V_icmp_ge 33 30 dX7_close_27 rfl rfl (fun c_27 => ?_) (fun c_27 => ?_)
    · skip
      refine V_aload_n 34 dX7_close_33 rfl rfl ?_
      refine V_getiV 37 7 9 fl_X7_204 dX7_close_34 rfl rfl (by decide) rfl (by decide) ei ?_
      refine V_bipush (v := 60) 39 dX7_close_37 rfl (by decide) ?_
      refine V_icmp_lt 45 42 dX7_close_39 rfl rfl (fun c_39 => ?_) (fun c_39 => ?_)
      · skip
        refine V_newI 48 28 3 dX7_close_45 rfl rfl (by decide) (by decide) wk_X7_27 wn_X3 wi_X3 (Nat.le_of_ble_eq_true rfl) (Nat.le_of_ble_eq_true rfl) (by decide) n28 ?_
        refine V_dup 49 dX7_close_48 rfl ?_
        refine V_iload_n 50 dX7_close_49 rfl rfl ?_
        refine V_aload_n 51 dX7_close_50 rfl rfl ?_
        refine V_getiV 54 6 6 fl_X7_191 dX7_close_51 rfl rfl (by decide) rfl (by decide) (show _ = nI p from ep) ?_
        refine V_cI2v 57 (ct_X3_init n29 n30 n31 n32) cs_X7_207 dX7_close_54 rfl ⟨Nat.le_of_ble_eq_true rfl, Nat.le_of_ble_eq_true rfl⟩ (Nat.le_of_ble_eq_true rfl) ⟨Nat.le_of_ble_eq_true rfl, Nat.le_of_ble_eq_true rfl⟩ (fun h' hx hle => ?_)
        obtain rfl := hx
        refine V_astore_n 58 dX7_close_57 rfl (by decide) ?_
        refine V_aload_n 59 dX7_close_58 rfl rfl ?_
        refine V_aload_n 60 dX7_close_59 rfl rfl ?_
        refine V_aload_n 61 dX7_close_60 rfl rfl ?_
        refine V_cV2v 64 (ct_X7_billUsage (h := f_h1 h' NI t p) (g0 := (f_h1 h' NI t p, 0)) (lm := 0) (p := p) (kr := kr) hS1 hI1 (by rw [hi1 1 (by decide)]; exact e) hNA hO1 hW1 hN1 ht hp hK1 C0 (by simp [f_h1, f_3, qii, qir, qin]) (by omega)) cs_X7_209 rfl rfl (by decide) dX7_close_61 rfl ⟨Nat.le_of_ble_eq_true rfl, Nat.le_of_ble_eq_true rfl⟩ (Nat.le_of_ble_eq_true rfl) ⟨Nat.le_of_ble_eq_true rfl, Nat.le_of_ble_eq_true rfl⟩ (fun h' hx hle => ?_)
        obtain rfl := hx
        refine V_aload_n 65 dX7_close_64 rfl rfl ?_
        refine V_aload_n 66 dX7_close_65 rfl rfl ?_
        refine V_cV1v 69 (ct_X6_billAdj (h := f_h1 h' NI t p) (g0 := f_G1 h' NA NI t p kr) (lm := 4) hS1 hI1 ht C1 (by omega)) cs_X7_213 rfl rfl (by decide) dX7_close_66 rfl ⟨Nat.le_of_ble_eq_true rfl, Nat.le_of_ble_eq_true rfl⟩ (Nat.le_of_ble_eq_true rfl) ⟨Nat.le_of_ble_eq_true rfl, Nat.le_of_ble_eq_true rfl⟩ (fun h' hx hle => ?_)
        obtain rfl := hx
        refine V_aload_n 70 dX7_close_69 rfl rfl ?_
        refine V_aload_n 71 dX7_close_70 rfl rfl ?_
        refine V_cV1v 74 (ct_X6_billTerms (h := f_h1 h' NI t p) (g := f_G2 h' NA NI t p kr) (lm := 8) hI1 C2 (by omega)) cs_X7_217 rfl rfl (by decide) dX7_close_71 rfl ⟨Nat.le_of_ble_eq_true rfl, Nat.le_of_ble_eq_true rfl⟩ (Nat.le_of_ble_eq_true rfl) ⟨Nat.le_of_ble_eq_true rfl, Nat.le_of_ble_eq_true rfl⟩ (fun h' hx hle => ?_)
        obtain rfl := hx
        refine V_heap (congrArg Prod.fst hT) ?_
        refine V_aload_n 75 dX7_close_74 rfl rfl ?_
        refine V_getR 78 6 5 fl_X7_194 dX7_close_75 rfl rfl (by decide) (Or.inl ⟨_, rfl⟩) (by decide) (sh_6_5 (C3.shc hS1) ht) ?_
        refine V_aload_n 79 dX7_close_78 rfl rfl ?_
        refine V_cV1v 82 (ct_X1_payFor (nc := nc) (lc := G3.2) (C3.shc hS1) ht hnc (C3.ifs hI1) ec3 C3.2.1 C3.2.2.1) cs_X7_220 rfl rfl (by decide) dX7_close_79 rfl ⟨Nat.le_of_ble_eq_true rfl, Nat.le_of_ble_eq_true rfl⟩ (Nat.le_of_ble_eq_true rfl) ⟨Nat.le_of_ble_eq_true rfl, Nat.le_of_ble_eq_true rfl⟩ (fun h' hx hle => ?_)
        obtain rfl := hx
        refine V_heap hU ?_
        refine V_aload_n 83 dX7_close_82 rfl rfl ?_
        refine V_cV0v 86 (ct_X6_endPeriod hSu ht ecu hnc epu) cs_X7_223 rfl rfl (by decide) dX7_close_83 rfl ⟨Nat.le_of_ble_eq_true rfl, Nat.le_of_ble_eq_true rfl⟩ (Nat.le_of_ble_eq_true rfl) ⟨Nat.le_of_ble_eq_true rfl, Nat.le_of_ble_eq_true rfl⟩ (fun h' hx hle => ?_)
        obtain rfl := hx
        refine V_heap hE ?_
        refine V_aload_n 87 dX7_close_86 rfl rfl ?_
        refine V_getR 90 7 3 fl_X7_29 dX7_close_87 rfl rfl (by decide) (Or.inr ⟨_, rfl⟩) (by decide) (show _ = some (5, 0) by rw [e5, hr1 1 (by decide)]; exact hS.1.2.2.2.1) ?_
        refine V_aload_n 91 dX7_close_90 rfl rfl ?_
        refine V_getiV 94 7 9 fl_X7_204 dX7_close_91 rfl rfl (by decide) rfl (by decide) eiu ?_
        refine V_aload_n 95 dX7_close_94 rfl rfl ?_
        refine V_aastN 96 (_) dX7_close_95 rfl rfl rfl (by decide) (by decide) rfl (show _ < 60 by omega) (by decide) ?_
        refine V_aload_n 97 dX7_close_96 rfl rfl ?_
        refine V_dup 98 dX7_close_97 rfl ?_
        refine V_getiV 101 7 9 fl_X7_204 dX7_close_98 rfl rfl (by decide) rfl (by decide) (show _ = nI NI from eiu) ?_
        refine V_iconst (v := 1) 102 dX7_close_101 rfl (by decide) ?_
        refine V_iadd 103 dX7_close_102 rfl ?_
        rw [nI_1]
        refine V_puti 106 7 9 fl_X7_204 dX7_close_103 rfl rfl (by decide) rfl (by decide) (Or.inl rfl) ?_
        refine V_aload_n 107 dX7_close_106 rfl rfl ?_
        refine V_getiV 110 7 9 fl_X7_204 dX7_close_107 rfl rfl (by decide) rfl (by decide) (show _ = nI (NI + 1) by simp [qii]) ?_
        refine V_iconst (v := 1) 111 dX7_close_110 rfl (by decide) ?_
        refine V_isub 112 dX7_close_111 rfl ?_
        rw [nI_pred]
        refine V_iret dX7_close_112 rfl rfl ⟨_, rfl, ?_⟩ (by first | exact Nat.le_refl _ | decide | omega) (by first | exact Nat.le_refl _ | decide | omega)
        exact ⟨rfl, rfl⟩
      · skip
        exact absurd (nI_lt (b := 60) hNI (by omega)) c_39
    · skip
      exact absurd hnow c_27
theorem ct_X7_close_early {t p : Nat} (hS : SHC h NA NH NI) (ht : t < 6) (ep : qg_i h 10 t 6 = nI p) (hnow : ¬ nI (1000 * (p + 1)) ≤ qg_i h 1 0 5) : qM yX7_close cX7_close 4 ((some .int)) 4 99 5 92 [.inr (.inr (some (1, 0))), .inl (nI t)] h (pI fun x h' => x = -4 ∧ h' = h) := by
  have em : nI (p + 1) * 1000 = nI (1000 * (p + 1)) := by rw [show (1000 : Int32) = nI 1000 from rfl, pk_mul, Nat.mul_comm]
  refine qM.of (plainFor_of_name (by decide)) (Nat.le_of_ble_eq_true rfl) ?_
  refine V_aload_n 1 dX7_close_0 rfl rfl ?_
  refine V_iload_n 2 dX7_close_1 rfl rfl ?_
  refine V_cV1r 5 (ten_ok hS ht) cs_X7_43 rfl rfl (by decide) dX7_close_2 rfl ⟨Nat.le_of_ble_eq_true rfl, Nat.le_of_ble_eq_true rfl⟩ (Nat.le_of_ble_eq_true rfl) ⟨Nat.le_of_ble_eq_true rfl, Nat.le_of_ble_eq_true rfl⟩ (fun x h' hx hle => ?_)
  obtain ⟨rfl, rfl⟩ := hx
  refine V_astore_n 6 dX7_close_5 rfl (by decide) ?_
  refine V_aload_n 7 dX7_close_6 rfl rfl ?_
  refine V_ifnonnull 13 10 dX7_close_7 rfl rfl (fun c_7 => ?_) (fun a_7 c_7 => ?_)
  · skip
    cases c_7
  · skip
    cases c_7
    refine V_aload_n 14 dX7_close_13 rfl rfl ?_
    refine V_geti 17 7 5 fl_X7_65 dX7_close_14 rfl rfl (by decide) rfl (by decide) ?_
    refine V_aload_n 18 dX7_close_17 rfl rfl ?_
    refine V_getiV 21 6 6 fl_X7_191 dX7_close_18 rfl rfl (by decide) rfl (by decide) ep ?_
    refine V_iconst (v := 1) 22 dX7_close_21 rfl (by decide) ?_
    refine V_iadd 23 dX7_close_22 rfl ?_
    rw [nI_1]
    refine V_sipush (v := 1000) 26 dX7_close_23 rfl (by decide) ?_
    refine V_imul 27 dX7_close_26 rfl ?_
    rw [em]
    refine V_icmp_ge 33 30 dX7_close_27 rfl rfl (fun c_27 => ?_) (fun c_27 => ?_)
    · skip
      exact absurd c_27 hnow
    · skip
      refine V_bipush (v := (-4)) 32 dX7_close_30 rfl (by decide) ?_
      refine V_iret dX7_close_32 rfl rfl ⟨_, rfl, ?_⟩ (by first | exact Nat.le_refl _ | decide | omega) (by first | exact Nat.le_refl _ | decide | omega)
      exact ⟨rfl, rfl⟩
theorem ct_X7_close_full {t p : Nat} (hS : SHC h NA NH NI) (ht : t < 6) (ep : qg_i h 10 t 6 = nI p) (hnow : nI (1000 * (p + 1)) ≤ qg_i h 1 0 5) (ei : qg_i h 1 0 9 = nI 60) : qM yX7_close cX7_close 4 ((some .int)) 4 99 5 92 [.inr (.inr (some (1, 0))), .inl (nI t)] h (pI fun x h' => x = -3 ∧ h' = h) := by
  have em : nI (p + 1) * 1000 = nI (1000 * (p + 1)) := by rw [show (1000 : Int32) = nI 1000 from rfl, pk_mul, Nat.mul_comm]
  refine qM.of (plainFor_of_name (by decide)) (Nat.le_of_ble_eq_true rfl) ?_
  refine V_aload_n 1 dX7_close_0 rfl rfl ?_
  refine V_iload_n 2 dX7_close_1 rfl rfl ?_
  refine V_cV1r 5 (ten_ok hS ht) cs_X7_43 rfl rfl (by decide) dX7_close_2 rfl ⟨Nat.le_of_ble_eq_true rfl, Nat.le_of_ble_eq_true rfl⟩ (Nat.le_of_ble_eq_true rfl) ⟨Nat.le_of_ble_eq_true rfl, Nat.le_of_ble_eq_true rfl⟩ (fun x h' hx hle => ?_)
  obtain ⟨rfl, rfl⟩ := hx
  refine V_astore_n 6 dX7_close_5 rfl (by decide) ?_
  refine V_aload_n 7 dX7_close_6 rfl rfl ?_
  refine V_ifnonnull 13 10 dX7_close_7 rfl rfl (fun c_7 => ?_) (fun a_7 c_7 => ?_)
  · skip
    cases c_7
  · skip
    cases c_7
    refine V_aload_n 14 dX7_close_13 rfl rfl ?_
    refine V_geti 17 7 5 fl_X7_65 dX7_close_14 rfl rfl (by decide) rfl (by decide) ?_
    refine V_aload_n 18 dX7_close_17 rfl rfl ?_
    refine V_getiV 21 6 6 fl_X7_191 dX7_close_18 rfl rfl (by decide) rfl (by decide) ep ?_
    refine V_iconst (v := 1) 22 dX7_close_21 rfl (by decide) ?_
    refine V_iadd 23 dX7_close_22 rfl ?_
    rw [nI_1]
    refine V_sipush (v := 1000) 26 dX7_close_23 rfl (by decide) ?_
    refine V_imul 27 dX7_close_26 rfl ?_
    rw [em]
    refine V_icmp_ge 33 30 dX7_close_27 rfl rfl (fun c_27 => ?_) (fun c_27 => ?_)
    · skip
      refine V_aload_n 34 dX7_close_33 rfl rfl ?_
      refine V_getiV 37 7 9 fl_X7_204 dX7_close_34 rfl rfl (by decide) rfl (by decide) ei ?_
      refine V_bipush (v := 60) 39 dX7_close_37 rfl (by decide) ?_
      refine V_icmp_lt 45 42 dX7_close_39 rfl rfl (fun c_39 => ?_) (fun c_39 => ?_)
      · skip
        exact absurd c_39 (by decide)
      · skip
        refine V_bipush (v := (-3)) 44 dX7_close_42 rfl (by decide) ?_
        refine V_iret dX7_close_44 rfl rfl ⟨_, rfl, ?_⟩ (by first | exact Nat.le_refl _ | decide | omega) (by first | exact Nat.le_refl _ | decide | omega)
        exact ⟨rfl, rfl⟩
    · skip
      exact absurd hnow c_27
theorem ct_X7_close_bad {t : Int32} (ht : ¬ (0 ≤ t ∧ t < 6)) : qM yX7_close cX7_close 4 ((some .int)) 4 99 5 92 [.inr (.inr (some (1, 0))), .inl t] h (pI fun x h' => x = -2 ∧ h' = h) := by
  refine qM.of (plainFor_of_name (by decide)) (Nat.le_of_ble_eq_true rfl) ?_
  refine V_aload_n 1 dX7_close_0 rfl rfl ?_
  refine V_iload_n 2 dX7_close_1 rfl rfl ?_
  refine V_cV1r 5 (ten_no ht) cs_X7_43 rfl rfl (by decide) dX7_close_2 rfl ⟨Nat.le_of_ble_eq_true rfl, Nat.le_of_ble_eq_true rfl⟩ (Nat.le_of_ble_eq_true rfl) ⟨Nat.le_of_ble_eq_true rfl, Nat.le_of_ble_eq_true rfl⟩ (fun x h' hx hle => ?_)
  obtain ⟨rfl, rfl⟩ := hx
  refine V_astore_n 6 dX7_close_5 rfl (by decide) ?_
  refine V_aload_n 7 dX7_close_6 rfl rfl ?_
  refine V_ifnonnull 13 10 dX7_close_7 rfl rfl (fun c_7 => ?_) (fun a_7 c_7 => ?_)
  · skip
    refine V_bipush (v := (-2)) 12 dX7_close_10 rfl (by decide) ?_
    refine V_iret dX7_close_12 rfl rfl ⟨_, rfl, ?_⟩ (by first | exact Nat.le_refl _ | decide | omega) (by first | exact Nat.le_refl _ | decide | omega)
    exact ⟨rfl, rfl⟩
  · skip
    cases c_7
end CL
