/-! The reference: holds, prices, terms, credits -/
section RI
variable {h : qH}
def m_hold (h : qH) (j : Nat) (w : Int32) : Int32 := if w.toInt = 0 then qg_i h 41 0 j else if w.toInt = 1 then qg_i h 42 0 j else if w.toInt = 2 then qg_i h 43 0 j else if w.toInt = 3 then qg_i h 44 0 j else if w.toInt = 4 then (if m_open h j then 1 else 0) else -2
theorem ct_X8_hold_ok {nh a : Nat} {w : Int32} (hS : SHR h) (e : qg_i h 33 0 10 = nI nh) (hnh : nh ≤ 200) (ha : a < nh) : qM yX8_hold cX8_hold 3 ((some .int)) 1 21 0 0 [.inr (.inr (some (33, 0))), .inl (nI a), .inl w] h (pI fun x h' => x = m_hold h a w ∧ h' = h) := by
  refine qM.of (plainFor_of_name (by decide)) (Nat.le_of_ble_eq_true rfl) ?_
  refine V_iload_n 1 dX8_hold_0 rfl rfl ?_
  refine V_if_lt 12 4 dX8_hold_1 rfl rfl (fun c_1 => ?_) (fun c_1 => ?_)
  · skip
    exact absurd c_1 (nI_pos (by omega))
  · skip
    refine V_iload_n 5 dX8_hold_4 rfl rfl ?_
    refine V_aload_n 6 dX8_hold_5 rfl rfl ?_
    refine V_getiV 9 8 10 fl_X8_81 dX8_hold_6 rfl rfl (by decide) rfl (by decide) e ?_
    refine V_icmp_lt 15 12 dX8_hold_9 rfl rfl (fun c_9 => ?_) (fun c_9 => ?_)
    · skip
      refine V_iload_n 16 dX8_hold_15 rfl rfl ?_
      by_cases z_16 : w.toInt < 0 ∨ 4 < w.toInt
      · refine V_tabOut 94 dX8_hold_16 z_16 rfl ?_
        refine V_bipush (v := (-2)) 96 dX8_hold_94 rfl (by decide) ?_
        refine V_iret dX8_hold_96 rfl rfl ⟨_, rfl, ?_⟩ (by first | exact Nat.le_refl _ | decide | omega) (by first | exact Nat.le_refl _ | decide | omega)
        refine ⟨?_, rfl⟩
        unfold m_hold
        rw [if_neg (by omega), if_neg (by omega), if_neg (by omega), if_neg (by omega), if_neg (by omega)]
      · obtain ⟨j_16, hj_16, hx_16⟩ : ∃ j : Nat, j < 5 ∧ w = nI (0 + j) := qx_sw 0 5 (by decide) (by decide) z_16
        rcases (show j_16 = 0 ∨ j_16 = 1 ∨ j_16 = 2 ∨ j_16 = 3 ∨ j_16 = 4 by omega) with rfl | rfl | rfl | rfl | rfl
        · rw [hx_16]
          refine V_tabIn (x := nI (0 + 0)) 52 dX8_hold_16 (by decide) (by decide) rfl rfl ?_
          refine V_aload_n 53 dX8_hold_52 rfl rfl ?_
          refine V_getR 56 8 11 fl_X8_101 dX8_hold_53 rfl rfl (by decide) (Or.inr ⟨_, rfl⟩) (by decide) (sr_11 hS) ?_
          refine V_iload_n 57 dX8_hold_56 rfl rfl ?_
          refine V_ialdN 58 (_) dX8_hold_57 rfl rfl (by decide) rfl (show _ < 200 by omega) (by decide) ?_
          refine V_iret dX8_hold_58 rfl rfl ⟨_, rfl, ?_⟩ (by first | exact Nat.le_refl _ | decide | omega) (by first | exact Nat.le_refl _ | decide | omega)
          exact ⟨rfl, rfl⟩
        · rw [hx_16]
          refine V_tabIn (x := nI (0 + 1)) 59 dX8_hold_16 (by decide) (by decide) rfl rfl ?_
          refine V_aload_n 60 dX8_hold_59 rfl rfl ?_
          refine V_getR 63 8 12 fl_X8_98 dX8_hold_60 rfl rfl (by decide) (Or.inr ⟨_, rfl⟩) (by decide) (sr_12 hS) ?_
          refine V_iload_n 64 dX8_hold_63 rfl rfl ?_
          refine V_ialdN 65 (_) dX8_hold_64 rfl rfl (by decide) rfl (show _ < 200 by omega) (by decide) ?_
          refine V_iret dX8_hold_65 rfl rfl ⟨_, rfl, ?_⟩ (by first | exact Nat.le_refl _ | decide | omega) (by first | exact Nat.le_refl _ | decide | omega)
          exact ⟨rfl, rfl⟩
        · rw [hx_16]
          refine V_tabIn (x := nI (0 + 2)) 66 dX8_hold_16 (by decide) (by decide) rfl rfl ?_
          refine V_aload_n 67 dX8_hold_66 rfl rfl ?_
          refine V_getR 70 8 13 fl_X8_104 dX8_hold_67 rfl rfl (by decide) (Or.inr ⟨_, rfl⟩) (by decide) (sr_13 hS) ?_
          refine V_iload_n 71 dX8_hold_70 rfl rfl ?_
          refine V_ialdN 72 (_) dX8_hold_71 rfl rfl (by decide) rfl (show _ < 200 by omega) (by decide) ?_
          refine V_iret dX8_hold_72 rfl rfl ⟨_, rfl, ?_⟩ (by first | exact Nat.le_refl _ | decide | omega) (by first | exact Nat.le_refl _ | decide | omega)
          exact ⟨rfl, rfl⟩
        · rw [hx_16]
          refine V_tabIn (x := nI (0 + 3)) 73 dX8_hold_16 (by decide) (by decide) rfl rfl ?_
          refine V_aload_n 74 dX8_hold_73 rfl rfl ?_
          refine V_getR 77 8 14 fl_X8_88 dX8_hold_74 rfl rfl (by decide) (Or.inr ⟨_, rfl⟩) (by decide) (sr_14 hS) ?_
          refine V_iload_n 78 dX8_hold_77 rfl rfl ?_
          refine V_ialdN 79 (_) dX8_hold_78 rfl rfl (by decide) rfl (show _ < 200 by omega) (by decide) ?_
          refine V_iret dX8_hold_79 rfl rfl ⟨_, rfl, ?_⟩ (by first | exact Nat.le_refl _ | decide | omega) (by first | exact Nat.le_refl _ | decide | omega)
          exact ⟨rfl, rfl⟩
        · rw [hx_16]
          refine V_tabIn (x := nI (0 + 4)) 80 dX8_hold_16 (by decide) (by decide) rfl rfl ?_
          refine V_aload_n 81 dX8_hold_80 rfl rfl ?_
          refine V_iload_n 82 dX8_hold_81 rfl rfl ?_
          refine V_cV1i 85 (ct_X8_isOpen hS e hnh ha) cs_X8_91 rfl rfl (by decide) dX8_hold_82 rfl ⟨Nat.le_of_ble_eq_true rfl, Nat.le_of_ble_eq_true rfl⟩ (Nat.le_of_ble_eq_true rfl) ⟨Nat.le_of_ble_eq_true rfl, Nat.le_of_ble_eq_true rfl⟩ (fun x h' hx hle => ?_)
          obtain ⟨rfl, rfl⟩ := hx
          refine V_if_eq 92 88 dX8_hold_85 rfl rfl (fun c_85 => ?_) (fun c_85 => ?_)
          · skip
            refine V_iconst (v := 0) 93 dX8_hold_92 rfl (by decide) ?_
            refine V_iret dX8_hold_93 rfl rfl ⟨_, rfl, ?_⟩ (by first | exact Nat.le_refl _ | decide | omega) (by first | exact Nat.le_refl _ | decide | omega)
            refine ⟨?_, rfl⟩
            show _ = (if m_open _ a then (1 : Int32) else 0)
            grind
          · skip
            refine V_iconst (v := 1) 89 dX8_hold_88 rfl (by decide) ?_
            refine V_goto 93 dX8_hold_89 rfl ?_
            refine V_iret dX8_hold_93 rfl rfl ⟨_, rfl, ?_⟩ (by first | exact Nat.le_refl _ | decide | omega) (by first | exact Nat.le_refl _ | decide | omega)
            refine ⟨?_, rfl⟩
            show _ = (if m_open _ a then (1 : Int32) else 0)
            grind
    · skip
      exact absurd (nI_lt ha (by omega)) c_9
theorem ct_X8_hold_bad {nh : Nat} {a w : Int32} (e : qg_i h 33 0 10 = nI nh) (ha : a < 0 ∨ nI nh ≤ a) : qM yX8_hold cX8_hold 3 ((some .int)) 1 21 0 0 [.inr (.inr (some (33, 0))), .inl a, .inl w] h (pI fun x h' => x = -2 ∧ h' = h) := by
  refine qM.of (plainFor_of_name (by decide)) (Nat.le_of_ble_eq_true rfl) ?_
  refine V_iload_n 1 dX8_hold_0 rfl rfl ?_
  refine V_if_lt 12 4 dX8_hold_1 rfl rfl (fun c_1 => ?_) (fun c_1 => ?_)
  · skip
    refine V_bipush (v := (-2)) 14 dX8_hold_12 rfl (by decide) ?_
    refine V_iret dX8_hold_14 rfl rfl ⟨_, rfl, ?_⟩ (by first | exact Nat.le_refl _ | decide | omega) (by first | exact Nat.le_refl _ | decide | omega)
    exact ⟨rfl, rfl⟩
  · skip
    refine V_iload_n 5 dX8_hold_4 rfl rfl ?_
    refine V_aload_n 6 dX8_hold_5 rfl rfl ?_
    refine V_getiV 9 8 10 fl_X8_81 dX8_hold_6 rfl rfl (by decide) rfl (by decide) e ?_
    refine V_icmp_lt 15 12 dX8_hold_9 rfl rfl (fun c_9 => ?_) (fun c_9 => ?_)
    · skip
      grind
    · skip
      refine V_bipush (v := (-2)) 14 dX8_hold_12 rfl (by decide) ?_
      refine V_iret dX8_hold_14 rfl rfl ⟨_, rfl, ?_⟩ (by first | exact Nat.le_refl _ | decide | omega) (by first | exact Nat.le_refl _ | decide | omega)
      exact ⟨rfl, rfl⟩
theorem ct_areUn_ok {u : Int32} (hu : 1 ≤ u ∧ u ≤ 1000000) : qM yX8_areUnits cX8_areUnits 1 ((some .boolean)) 0 0 0 0 [.inl u] h (pI fun x h' => x = 1 ∧ h' = h) := by
  refine (ct_X8_areUnits h u).weak ?_
  rintro v h' ⟨x, rfl, rfl, rfl⟩
  exact ⟨_, rfl, if_pos hu, rfl⟩
def m_req (h : qH) (nh : Nat) (a r u : Int32) : qH := qs_i (qs_i (qs_i (qs_i (qs_i (qs_i h 41 0 nh a) 42 0 nh r) 43 0 nh u) 44 0 nh (qg_i h 33 0 0)) 45 0 nh 0) 33 0 10 (nI (nh + 1))
theorem ct_X8_request_ok {na nh b r p : Nat} {u : Int32} (hS : SHR h) (ea : qg_i h 33 0 1 = nI na) (hna : na ≤ 24) (hp : WI (qg_i h 35 0) na) (e : qg_i h 33 0 10 = nI nh) (hnh : nh < 200) (hH : WH h na nh) (hb : b < na) (hr : r < 4) (hpp : p < 100) (enow : qg_i h 33 0 0 / 1000 = nI p) (hu : 1 ≤ u ∧ u ≤ 1000000) (ho : sm_i (m_open1 h) nh ≠ 40) (hro : u.toInt64 ≤ m_room h na nh p r b) : qM yX8_request cX8_request 4 ((some .int)) 3 74 0 0 [.inr (.inr (some (33, 0))), .inl (nI b), .inl (nI r), .inl u] h (pI fun x h' => x = nI nh ∧ h' = m_req h nh (nI b) (nI r) u) := by
  refine qM.of (plainFor_of_name (by decide)) (Nat.le_of_ble_eq_true rfl) ?_
  refine V_aload_n 1 dX8_request_0 rfl rfl ?_
  refine V_iload_n 2 dX8_request_1 rfl rfl ?_
  refine V_cV1i 5 (ct_isAcc_ok ea hna hb) cs_X8_11 rfl rfl (by decide) dX8_request_2 rfl ⟨Nat.le_of_ble_eq_true rfl, Nat.le_of_ble_eq_true rfl⟩ (Nat.le_of_ble_eq_true rfl) ⟨Nat.le_of_ble_eq_true rfl, Nat.le_of_ble_eq_true rfl⟩ (fun x h' hx hle => ?_)
  obtain ⟨rfl, rfl⟩ := hx
  refine V_if_eq 22 8 dX8_request_5 rfl rfl (fun c_5 => ?_) (fun c_5 => ?_)
  · skip
    exact absurd c_5 (by decide)
  · skip
    refine V_iload_n 9 dX8_request_8 rfl rfl ?_
    refine V_cS1i 12 (ct_isRes_ok hr) cs_X8_28 dX8_request_9 rfl ⟨Nat.le_of_ble_eq_true rfl, Nat.le_of_ble_eq_true rfl⟩ (Nat.le_of_ble_eq_true rfl) ⟨Nat.le_of_ble_eq_true rfl, Nat.le_of_ble_eq_true rfl⟩ (fun x h' hx hle => ?_)
    obtain ⟨rfl, rfl⟩ := hx
    refine V_if_eq 22 15 dX8_request_12 rfl rfl (fun c_12 => ?_) (fun c_12 => ?_)
    · skip
      exact absurd c_12 (by decide)
    · skip
      refine V_iload_n 16 dX8_request_15 rfl rfl ?_
      refine V_cS1i 19 (ct_areUn_ok hu) cs_X8_64 dX8_request_16 rfl ⟨Nat.le_of_ble_eq_true rfl, Nat.le_of_ble_eq_true rfl⟩ (Nat.le_of_ble_eq_true rfl) ⟨Nat.le_of_ble_eq_true rfl, Nat.le_of_ble_eq_true rfl⟩ (fun x h' hx hle => ?_)
      obtain ⟨rfl, rfl⟩ := hx
      refine V_if_ne 25 22 dX8_request_19 rfl rfl (fun c_19 => ?_) (fun c_19 => ?_)
      · skip
        refine V_aload_n 26 dX8_request_25 rfl rfl ?_
        refine V_cV0i 29 (ct_X8_open hS e (by omega)) cs_X8_122 rfl rfl (by decide) dX8_request_26 rfl ⟨Nat.le_of_ble_eq_true rfl, Nat.le_of_ble_eq_true rfl⟩ (Nat.le_of_ble_eq_true rfl) ⟨Nat.le_of_ble_eq_true rfl, Nat.le_of_ble_eq_true rfl⟩ (fun x h' hx hle => ?_)
        obtain ⟨rfl, rfl⟩ := hx
        refine V_bipush (v := 40) 31 dX8_request_29 rfl (by decide) ?_
        refine V_icmp_eq 44 34 dX8_request_31 rfl rfl (fun c_31 => ?_) (fun c_31 => ?_)
        · skip
          exact absurd c_31 ho
        · skip
          refine V_aload_n 35 dX8_request_34 rfl rfl ?_
          refine V_getiV 38 8 10 fl_X8_81 dX8_request_35 rfl rfl (by decide) rfl (by decide) e ?_
          refine V_sipush (v := 200) 41 dX8_request_38 rfl (by decide) ?_
          refine V_icmp_ne 47 44 dX8_request_41 rfl rfl (fun c_41 => ?_) (fun c_41 => ?_)
          · skip
            refine V_iload_n 48 dX8_request_47 rfl rfl ?_
            refine V_i2l 49 dX8_request_48 rfl ?_
            refine V_aload_n 50 dX8_request_49 rfl rfl ?_
            refine V_iload_n 51 dX8_request_50 rfl rfl ?_
            refine V_iload_n 52 dX8_request_51 rfl rfl ?_
            refine V_cV2l 55 (ct_X8_roomOf hS ea hna hp e (by omega) hH hr hpp enow hb) cs_X8_115 rfl rfl (by decide) dX8_request_52 rfl ⟨Nat.le_of_ble_eq_true rfl, Nat.le_of_ble_eq_true rfl⟩ (Nat.le_of_ble_eq_true rfl) ⟨Nat.le_of_ble_eq_true rfl, Nat.le_of_ble_eq_true rfl⟩ (fun x h' hx hle => ?_)
            obtain ⟨rfl, rfl⟩ := hx
            refine V_lcmp 56 dX8_request_55 rfl ?_
            refine V_if_le 62 59 dX8_request_56 rfl rfl (fun c_56 => ?_) (fun c_56 => ?_)
            · (rw [lg_le] at c_56)
              refine V_aload_n 63 dX8_request_62 rfl rfl ?_
              refine V_getR 66 8 11 fl_X8_101 dX8_request_63 rfl rfl (by decide) (Or.inr ⟨_, rfl⟩) (by decide) (sr_11 hS) ?_
              refine V_aload_n 67 dX8_request_66 rfl rfl ?_
              refine V_getiV 70 8 10 fl_X8_81 dX8_request_67 rfl rfl (by decide) rfl (by decide) e ?_
              refine V_iload_n 71 dX8_request_70 rfl rfl ?_
              refine V_iastN 72 (_) dX8_request_71 rfl rfl (by decide) rfl (show _ < 200 by omega) (by decide) ?_
              refine V_aload_n 73 dX8_request_72 rfl rfl ?_
              refine V_getR 76 8 12 fl_X8_98 dX8_request_73 rfl rfl (by decide) (Or.inr ⟨_, rfl⟩) (by decide) (sr_12 hS) ?_
              refine V_aload_n 77 dX8_request_76 rfl rfl ?_
              refine V_getiV 80 8 10 fl_X8_81 dX8_request_77 rfl rfl (by decide) rfl (by decide) e ?_
              refine V_iload_n 81 dX8_request_80 rfl rfl ?_
              refine V_iastN 82 (_) dX8_request_81 rfl rfl (by decide) rfl (show _ < 200 by omega) (by decide) ?_
              refine V_aload_n 83 dX8_request_82 rfl rfl ?_
              refine V_getR 86 8 13 fl_X8_104 dX8_request_83 rfl rfl (by decide) (Or.inr ⟨_, rfl⟩) (by decide) (sr_13 hS) ?_
              refine V_aload_n 87 dX8_request_86 rfl rfl ?_
              refine V_getiV 90 8 10 fl_X8_81 dX8_request_87 rfl rfl (by decide) rfl (by decide) e ?_
              refine V_iload_n 91 dX8_request_90 rfl rfl ?_
              refine V_iastN 92 (_) dX8_request_91 rfl rfl (by decide) rfl (show _ < 200 by omega) (by decide) ?_
              refine V_aload_n 93 dX8_request_92 rfl rfl ?_
              refine V_getR 96 8 14 fl_X8_88 dX8_request_93 rfl rfl (by decide) (Or.inr ⟨_, rfl⟩) (by decide) (sr_14 hS) ?_
              refine V_aload_n 97 dX8_request_96 rfl rfl ?_
              refine V_getiV 100 8 10 fl_X8_81 dX8_request_97 rfl rfl (by decide) rfl (by decide) e ?_
              refine V_aload_n 101 dX8_request_100 rfl rfl ?_
              refine V_geti 104 8 0 fl_X8_24 dX8_request_101 rfl rfl (by decide) rfl (by decide) ?_
              refine V_iastN 105 (_) dX8_request_104 rfl rfl (by decide) rfl (show _ < 200 by omega) (by decide) ?_
              refine V_aload_n 106 dX8_request_105 rfl rfl ?_
              refine V_getR 109 8 15 fl_X8_84 dX8_request_106 rfl rfl (by decide) (Or.inr ⟨_, rfl⟩) (by decide) (sr_15 hS) ?_
              refine V_aload_n 110 dX8_request_109 rfl rfl ?_
              refine V_getiV 113 8 10 fl_X8_81 dX8_request_110 rfl rfl (by decide) rfl (by decide) e ?_
              refine V_iconst (v := 0) 114 dX8_request_113 rfl (by decide) ?_
              refine V_zastN 115 (_) dX8_request_114 rfl rfl (by decide) rfl (show _ < 200 by omega) (by decide) rfl ?_
              refine V_aload_n 116 dX8_request_115 rfl rfl ?_
              refine V_dup 117 dX8_request_116 rfl ?_
              refine V_getiV 120 8 10 fl_X8_81 dX8_request_117 rfl rfl (by decide) rfl (by decide) e ?_
              refine V_iconst (v := 1) 121 dX8_request_120 rfl (by decide) ?_
              refine V_iadd 122 dX8_request_121 rfl ?_
              rw [nI_1]
              refine V_puti 125 8 10 fl_X8_81 dX8_request_122 rfl rfl (by decide) rfl (by decide) (Or.inl rfl) ?_
              refine V_aload_n 126 dX8_request_125 rfl rfl ?_
              refine V_getiV 129 8 10 fl_X8_81 dX8_request_126 rfl rfl (by decide) rfl (by decide) (show _ = nI (nh + 1) from rfl) ?_
              refine V_iconst (v := 1) 130 dX8_request_129 rfl (by decide) ?_
              refine V_isub 131 dX8_request_130 rfl ?_
              rw [nI_pred]
              refine V_iret dX8_request_131 rfl rfl ⟨_, rfl, ?_⟩ (by first | exact Nat.le_refl _ | decide | omega) (by first | exact Nat.le_refl _ | decide | omega)
              exact ⟨rfl, rfl⟩
            · (rw [lg_le] at c_56)
              exact absurd hro c_56
          · skip
            exact absurd (show nI nh = nI 200 from c_41) (fun q => by have := (nI_eq (by omega) (by omega)).mp q; omega)
      · skip
        exact absurd c_19 (by decide)
theorem ct_X8_request_full {na nh b r : Nat} {u : Int32} (hS : SHR h) (ea : qg_i h 33 0 1 = nI na) (hna : na ≤ 24) (e : qg_i h 33 0 10 = nI nh) (hnh : nh ≤ 200) (hb : b < na) (hr : r < 4) (hu : 1 ≤ u ∧ u ≤ 1000000) (ho : sm_i (m_open1 h) nh = 40 ∨ nh = 200) : qM yX8_request cX8_request 4 ((some .int)) 3 74 0 0 [.inr (.inr (some (33, 0))), .inl (nI b), .inl (nI r), .inl u] h (pI fun x h' => x = -3 ∧ h' = h) := by
  refine qM.of (plainFor_of_name (by decide)) (Nat.le_of_ble_eq_true rfl) ?_
  refine V_aload_n 1 dX8_request_0 rfl rfl ?_
  refine V_iload_n 2 dX8_request_1 rfl rfl ?_
  refine V_cV1i 5 (ct_isAcc_ok ea hna hb) cs_X8_11 rfl rfl (by decide) dX8_request_2 rfl ⟨Nat.le_of_ble_eq_true rfl, Nat.le_of_ble_eq_true rfl⟩ (Nat.le_of_ble_eq_true rfl) ⟨Nat.le_of_ble_eq_true rfl, Nat.le_of_ble_eq_true rfl⟩ (fun x h' hx hle => ?_)
  obtain ⟨rfl, rfl⟩ := hx
  refine V_if_eq 22 8 dX8_request_5 rfl rfl (fun c_5 => ?_) (fun c_5 => ?_)
  · skip
    exact absurd c_5 (by decide)
  · skip
    refine V_iload_n 9 dX8_request_8 rfl rfl ?_
    refine V_cS1i 12 (ct_isRes_ok hr) cs_X8_28 dX8_request_9 rfl ⟨Nat.le_of_ble_eq_true rfl, Nat.le_of_ble_eq_true rfl⟩ (Nat.le_of_ble_eq_true rfl) ⟨Nat.le_of_ble_eq_true rfl, Nat.le_of_ble_eq_true rfl⟩ (fun x h' hx hle => ?_)
    obtain ⟨rfl, rfl⟩ := hx
    refine V_if_eq 22 15 dX8_request_12 rfl rfl (fun c_12 => ?_) (fun c_12 => ?_)
    · skip
      exact absurd c_12 (by decide)
    · skip
      refine V_iload_n 16 dX8_request_15 rfl rfl ?_
      refine V_cS1i 19 (ct_areUn_ok hu) cs_X8_64 dX8_request_16 rfl ⟨Nat.le_of_ble_eq_true rfl, Nat.le_of_ble_eq_true rfl⟩ (Nat.le_of_ble_eq_true rfl) ⟨Nat.le_of_ble_eq_true rfl, Nat.le_of_ble_eq_true rfl⟩ (fun x h' hx hle => ?_)
      obtain ⟨rfl, rfl⟩ := hx
      refine V_if_ne 25 22 dX8_request_19 rfl rfl (fun c_19 => ?_) (fun c_19 => ?_)
      · skip
        refine V_aload_n 26 dX8_request_25 rfl rfl ?_
        refine V_cV0i 29 (ct_X8_open hS e hnh) cs_X8_122 rfl rfl (by decide) dX8_request_26 rfl ⟨Nat.le_of_ble_eq_true rfl, Nat.le_of_ble_eq_true rfl⟩ (Nat.le_of_ble_eq_true rfl) ⟨Nat.le_of_ble_eq_true rfl, Nat.le_of_ble_eq_true rfl⟩ (fun x h' hx hle => ?_)
        obtain ⟨rfl, rfl⟩ := hx
        refine V_bipush (v := 40) 31 dX8_request_29 rfl (by decide) ?_
        refine V_icmp_eq 44 34 dX8_request_31 rfl rfl (fun c_31 => ?_) (fun c_31 => ?_)
        · skip
          refine V_bipush (v := (-3)) 46 dX8_request_44 rfl (by decide) ?_
          refine V_iret dX8_request_46 rfl rfl ⟨_, rfl, ?_⟩ (by first | exact Nat.le_refl _ | decide | omega) (by first | exact Nat.le_refl _ | decide | omega)
          exact ⟨rfl, rfl⟩
        · skip
          refine V_aload_n 35 dX8_request_34 rfl rfl ?_
          refine V_getiV 38 8 10 fl_X8_81 dX8_request_35 rfl rfl (by decide) rfl (by decide) e ?_
          refine V_sipush (v := 200) 41 dX8_request_38 rfl (by decide) ?_
          refine V_icmp_ne 47 44 dX8_request_41 rfl rfl (fun c_41 => ?_) (fun c_41 => ?_)
          · skip
            exact absurd (by rcases ho with q | q; exact absurd q c_31; rw [q]; rfl) c_41
          · skip
            refine V_bipush (v := (-3)) 46 dX8_request_44 rfl (by decide) ?_
            refine V_iret dX8_request_46 rfl rfl ⟨_, rfl, ?_⟩ (by first | exact Nat.le_refl _ | decide | omega) (by first | exact Nat.le_refl _ | decide | omega)
            exact ⟨rfl, rfl⟩
      · skip
        exact absurd c_19 (by decide)
theorem ct_X8_request_ref {na nh b r p : Nat} {u : Int32} (hS : SHR h) (ea : qg_i h 33 0 1 = nI na) (hna : na ≤ 24) (hp : WI (qg_i h 35 0) na) (e : qg_i h 33 0 10 = nI nh) (hnh : nh < 200) (hH : WH h na nh) (hb : b < na) (hr : r < 4) (hpp : p < 100) (enow : qg_i h 33 0 0 / 1000 = nI p) (hu : 1 ≤ u ∧ u ≤ 1000000) (ho : sm_i (m_open1 h) nh ≠ 40) (hro : ¬ u.toInt64 ≤ m_room h na nh p r b) : qM yX8_request cX8_request 4 ((some .int)) 3 74 0 0 [.inr (.inr (some (33, 0))), .inl (nI b), .inl (nI r), .inl u] h (pI fun x h' => x = -7 ∧ h' = h) := by
  refine qM.of (plainFor_of_name (by decide)) (Nat.le_of_ble_eq_true rfl) ?_
  refine V_aload_n 1 dX8_request_0 rfl rfl ?_
  refine V_iload_n 2 dX8_request_1 rfl rfl ?_
  refine V_cV1i 5 (ct_isAcc_ok ea hna hb) cs_X8_11 rfl rfl (by decide) dX8_request_2 rfl ⟨Nat.le_of_ble_eq_true rfl, Nat.le_of_ble_eq_true rfl⟩ (Nat.le_of_ble_eq_true rfl) ⟨Nat.le_of_ble_eq_true rfl, Nat.le_of_ble_eq_true rfl⟩ (fun x h' hx hle => ?_)
  obtain ⟨rfl, rfl⟩ := hx
  refine V_if_eq 22 8 dX8_request_5 rfl rfl (fun c_5 => ?_) (fun c_5 => ?_)
  · skip
    exact absurd c_5 (by decide)
  · skip
    refine V_iload_n 9 dX8_request_8 rfl rfl ?_
    refine V_cS1i 12 (ct_isRes_ok hr) cs_X8_28 dX8_request_9 rfl ⟨Nat.le_of_ble_eq_true rfl, Nat.le_of_ble_eq_true rfl⟩ (Nat.le_of_ble_eq_true rfl) ⟨Nat.le_of_ble_eq_true rfl, Nat.le_of_ble_eq_true rfl⟩ (fun x h' hx hle => ?_)
    obtain ⟨rfl, rfl⟩ := hx
    refine V_if_eq 22 15 dX8_request_12 rfl rfl (fun c_12 => ?_) (fun c_12 => ?_)
    · skip
      exact absurd c_12 (by decide)
    · skip
      refine V_iload_n 16 dX8_request_15 rfl rfl ?_
      refine V_cS1i 19 (ct_areUn_ok hu) cs_X8_64 dX8_request_16 rfl ⟨Nat.le_of_ble_eq_true rfl, Nat.le_of_ble_eq_true rfl⟩ (Nat.le_of_ble_eq_true rfl) ⟨Nat.le_of_ble_eq_true rfl, Nat.le_of_ble_eq_true rfl⟩ (fun x h' hx hle => ?_)
      obtain ⟨rfl, rfl⟩ := hx
      refine V_if_ne 25 22 dX8_request_19 rfl rfl (fun c_19 => ?_) (fun c_19 => ?_)
      · skip
        refine V_aload_n 26 dX8_request_25 rfl rfl ?_
        refine V_cV0i 29 (ct_X8_open hS e (by omega)) cs_X8_122 rfl rfl (by decide) dX8_request_26 rfl ⟨Nat.le_of_ble_eq_true rfl, Nat.le_of_ble_eq_true rfl⟩ (Nat.le_of_ble_eq_true rfl) ⟨Nat.le_of_ble_eq_true rfl, Nat.le_of_ble_eq_true rfl⟩ (fun x h' hx hle => ?_)
        obtain ⟨rfl, rfl⟩ := hx
        refine V_bipush (v := 40) 31 dX8_request_29 rfl (by decide) ?_
        refine V_icmp_eq 44 34 dX8_request_31 rfl rfl (fun c_31 => ?_) (fun c_31 => ?_)
        · skip
          exact absurd c_31 ho
        · skip
          refine V_aload_n 35 dX8_request_34 rfl rfl ?_
          refine V_getiV 38 8 10 fl_X8_81 dX8_request_35 rfl rfl (by decide) rfl (by decide) e ?_
          refine V_sipush (v := 200) 41 dX8_request_38 rfl (by decide) ?_
          refine V_icmp_ne 47 44 dX8_request_41 rfl rfl (fun c_41 => ?_) (fun c_41 => ?_)
          · skip
            refine V_iload_n 48 dX8_request_47 rfl rfl ?_
            refine V_i2l 49 dX8_request_48 rfl ?_
            refine V_aload_n 50 dX8_request_49 rfl rfl ?_
            refine V_iload_n 51 dX8_request_50 rfl rfl ?_
            refine V_iload_n 52 dX8_request_51 rfl rfl ?_
            refine V_cV2l 55 (ct_X8_roomOf hS ea hna hp e (by omega) hH hr hpp enow hb) cs_X8_115 rfl rfl (by decide) dX8_request_52 rfl ⟨Nat.le_of_ble_eq_true rfl, Nat.le_of_ble_eq_true rfl⟩ (Nat.le_of_ble_eq_true rfl) ⟨Nat.le_of_ble_eq_true rfl, Nat.le_of_ble_eq_true rfl⟩ (fun x h' hx hle => ?_)
            obtain ⟨rfl, rfl⟩ := hx
            refine V_lcmp 56 dX8_request_55 rfl ?_
            refine V_if_le 62 59 dX8_request_56 rfl rfl (fun c_56 => ?_) (fun c_56 => ?_)
            · (rw [lg_le] at c_56)
              exact absurd c_56 hro
            · (rw [lg_le] at c_56)
              refine V_bipush (v := (-7)) 61 dX8_request_59 rfl (by decide) ?_
              refine V_iret dX8_request_61 rfl rfl ⟨_, rfl, ?_⟩ (by first | exact Nat.le_refl _ | decide | omega) (by first | exact Nat.le_refl _ | decide | omega)
              exact ⟨rfl, rfl⟩
          · skip
            exact absurd (show nI nh = nI 200 from c_41) (fun q => by have := (nI_eq (by omega) (by omega)).mp q; omega)
      · skip
        exact absurd c_19 (by decide)
theorem ct_X8_request_bad {a r u : Int32} (hbad : ¬ ((0 ≤ a ∧ a < qg_i h 33 0 1) ∧ (0 ≤ r ∧ r < 4) ∧ (1 ≤ u ∧ u ≤ 1000000))) : qM yX8_request cX8_request 4 ((some .int)) 3 74 0 0 [.inr (.inr (some (33, 0))), .inl a, .inl r, .inl u] h (pI fun x h' => x = -2 ∧ h' = h) := by
  refine qM.of (plainFor_of_name (by decide)) (Nat.le_of_ble_eq_true rfl) ?_
  refine V_aload_n 1 dX8_request_0 rfl rfl ?_
  refine V_iload_n 2 dX8_request_1 rfl rfl ?_
  refine V_cV1i 5 (ct_X8_isAccount _ _) cs_X8_11 rfl rfl (by decide) dX8_request_2 rfl ⟨Nat.le_of_ble_eq_true rfl, Nat.le_of_ble_eq_true rfl⟩ (Nat.le_of_ble_eq_true rfl) ⟨Nat.le_of_ble_eq_true rfl, Nat.le_of_ble_eq_true rfl⟩ (fun x h' hx hle => ?_)
  obtain ⟨rfl, rfl⟩ := hx
  refine V_if_eq 22 8 dX8_request_5 rfl rfl (fun c_5 => ?_) (fun c_5 => ?_)
  · skip
    refine V_bipush (v := (-2)) 24 dX8_request_22 rfl (by decide) ?_
    refine V_iret dX8_request_24 rfl rfl ⟨_, rfl, ?_⟩ (by first | exact Nat.le_refl _ | decide | omega) (by first | exact Nat.le_refl _ | decide | omega)
    exact ⟨rfl, rfl⟩
  · skip
    refine V_iload_n 9 dX8_request_8 rfl rfl ?_
    refine V_cS1i 12 (ct_X8_isResource _ _) cs_X8_28 dX8_request_9 rfl ⟨Nat.le_of_ble_eq_true rfl, Nat.le_of_ble_eq_true rfl⟩ (Nat.le_of_ble_eq_true rfl) ⟨Nat.le_of_ble_eq_true rfl, Nat.le_of_ble_eq_true rfl⟩ (fun x h' hx hle => ?_)
    obtain ⟨rfl, rfl⟩ := hx
    refine V_if_eq 22 15 dX8_request_12 rfl rfl (fun c_12 => ?_) (fun c_12 => ?_)
    · skip
      refine V_bipush (v := (-2)) 24 dX8_request_22 rfl (by decide) ?_
      refine V_iret dX8_request_24 rfl rfl ⟨_, rfl, ?_⟩ (by first | exact Nat.le_refl _ | decide | omega) (by first | exact Nat.le_refl _ | decide | omega)
      exact ⟨rfl, rfl⟩
    · skip
      refine V_iload_n 16 dX8_request_15 rfl rfl ?_
      refine V_cS1i 19 (ct_X8_areUnits _ _) cs_X8_64 dX8_request_16 rfl ⟨Nat.le_of_ble_eq_true rfl, Nat.le_of_ble_eq_true rfl⟩ (Nat.le_of_ble_eq_true rfl) ⟨Nat.le_of_ble_eq_true rfl, Nat.le_of_ble_eq_true rfl⟩ (fun x h' hx hle => ?_)
      obtain ⟨rfl, rfl⟩ := hx
      refine V_if_ne 25 22 dX8_request_19 rfl rfl (fun c_19 => ?_) (fun c_19 => ?_)
      · skip
        exfalso; grind
      · skip
        refine V_bipush (v := (-2)) 24 dX8_request_22 rfl (by decide) ?_
        refine V_iret dX8_request_24 rfl rfl ⟨_, rfl, ?_⟩ (by first | exact Nat.le_refl _ | decide | omega) (by first | exact Nat.le_refl _ | decide | omega)
        exact ⟨rfl, rfl⟩
theorem ct_X8_mode_ok {t r : Nat} {m z : Int32} (hS : SHR h) (ht : t < 6) (hr : r < 4) (hm : 0 ≤ m ∧ m ≤ 2) (hz : 1 ≤ z ∧ z ≤ 100000) : qM yX8_mode cX8_mode 5 ((some .int)) 1 21 0 0 [.inr (.inr (some (33, 0))), .inl (nI t), .inl (nI r), .inl m, .inl z] h (pI fun x h' => x = 0 ∧ h' = qs_l (qs_l h 46 0 (18 * (4 * t + r)) m.toInt64) 46 0 (18 * (4 * t + r) + 1) z.toInt64) := by
  refine qM.of (plainFor_of_name (by decide)) (Nat.le_of_ble_eq_true rfl) ?_
  refine V_iload_n 1 dX8_mode_0 rfl rfl ?_
  refine V_cS1i 4 (ct_isTen_ok ht) cs_X8_7 dX8_mode_1 rfl ⟨Nat.le_of_ble_eq_true rfl, Nat.le_of_ble_eq_true rfl⟩ (Nat.le_of_ble_eq_true rfl) ⟨Nat.le_of_ble_eq_true rfl, Nat.le_of_ble_eq_true rfl⟩ (fun x h' hx hle => ?_)
  obtain ⟨rfl, rfl⟩ := hx
  refine V_if_eq 36 7 dX8_mode_4 rfl rfl (fun c_4 => ?_) (fun c_4 => ?_)
  · skip
    exact absurd c_4 (by decide)
  · skip
    refine V_iload_n 8 dX8_mode_7 rfl rfl ?_
    refine V_cS1i 11 (ct_isRes_ok hr) cs_X8_28 dX8_mode_8 rfl ⟨Nat.le_of_ble_eq_true rfl, Nat.le_of_ble_eq_true rfl⟩ (Nat.le_of_ble_eq_true rfl) ⟨Nat.le_of_ble_eq_true rfl, Nat.le_of_ble_eq_true rfl⟩ (fun x h' hx hle => ?_)
    obtain ⟨rfl, rfl⟩ := hx
    refine V_if_eq 36 14 dX8_mode_11 rfl rfl (fun c_11 => ?_) (fun c_11 => ?_)
    · skip
      exact absurd c_11 (by decide)
    · skip
      refine V_iload_n 15 dX8_mode_14 rfl rfl ?_
      refine V_if_lt 36 18 dX8_mode_15 rfl rfl (fun c_15 => ?_) (fun c_15 => ?_)
      · skip
        grind
      · skip
        refine V_iload_n 19 dX8_mode_18 rfl rfl ?_
        refine V_iconst (v := 2) 20 dX8_mode_19 rfl (by decide) ?_
        refine V_icmp_gt 36 23 dX8_mode_20 rfl rfl (fun c_20 => ?_) (fun c_20 => ?_)
        · skip
          grind
        · skip
          refine V_iload 25 dX8_mode_23 rfl rfl ?_
          refine V_iconst (v := 1) 26 dX8_mode_25 rfl (by decide) ?_
          refine V_icmp_lt 36 29 dX8_mode_26 rfl rfl (fun c_26 => ?_) (fun c_26 => ?_)
          · skip
            grind
          · skip
            refine V_iload 31 dX8_mode_29 rfl rfl ?_
            refine V_ldc (v := 100000) 33 dX8_mode_31 rfl wc_X8_173 ?_
            refine V_icmp_le 39 36 dX8_mode_33 rfl rfl (fun c_33 => ?_) (fun c_33 => ?_)
            · skip
              refine V_aload_n 40 dX8_mode_39 rfl rfl ?_
              refine V_getR 43 8 16 fl_X8_131 dX8_mode_40 rfl rfl (by decide) (Or.inr ⟨_, rfl⟩) (by decide) (sr_16 hS) ?_
              refine V_iload_n 44 dX8_mode_43 rfl rfl ?_
              refine V_iload_n 45 dX8_mode_44 rfl rfl ?_
              refine V_cS2i 48 (ct_X8_row _ _ _) cs_X8_174 dX8_mode_45 rfl ⟨Nat.le_of_ble_eq_true rfl, Nat.le_of_ble_eq_true rfl⟩ (Nat.le_of_ble_eq_true rfl) ⟨Nat.le_of_ble_eq_true rfl, Nat.le_of_ble_eq_true rfl⟩ (fun x h' hx hle => ?_)
              obtain ⟨rfl, rfl⟩ := hx
              refine V_iload_n 49 dX8_mode_48 rfl rfl ?_
              refine V_i2l 50 dX8_mode_49 rfl ?_
              refine V_lastN 51 (_) dX8_mode_50 rfl rfl (by decide) rfl (show _ < 4752 by omega) (by decide) ?_
              refine V_aload_n 52 dX8_mode_51 rfl rfl ?_
              refine V_getR 55 8 16 fl_X8_131 dX8_mode_52 rfl rfl (by decide) (Or.inr ⟨_, rfl⟩) (by decide) (sr_16 hS) ?_
              refine V_iload_n 56 dX8_mode_55 rfl rfl ?_
              refine V_iload_n 57 dX8_mode_56 rfl rfl ?_
              refine V_cS2i 60 (ct_X8_row _ _ _) cs_X8_174 dX8_mode_57 rfl ⟨Nat.le_of_ble_eq_true rfl, Nat.le_of_ble_eq_true rfl⟩ (Nat.le_of_ble_eq_true rfl) ⟨Nat.le_of_ble_eq_true rfl, Nat.le_of_ble_eq_true rfl⟩ (fun x h' hx hle => ?_)
              obtain ⟨rfl, rfl⟩ := hx
              refine V_iconst (v := 1) 61 dX8_mode_60 rfl (by decide) ?_
              refine V_iadd 62 dX8_mode_61 rfl ?_
              refine V_iload 64 dX8_mode_62 rfl rfl ?_
              refine V_i2l 65 dX8_mode_64 rfl ?_
              refine V_lastN 66 (18 * (4 * t + r) + 1) dX8_mode_65 rfl rfl (by decide) (nI_1 _) (show _ < 4752 by omega) (by decide) ?_
              refine V_iconst (v := 0) 67 dX8_mode_66 rfl (by decide) ?_
              refine V_iret dX8_mode_67 rfl rfl ⟨_, rfl, ?_⟩ (by first | exact Nat.le_refl _ | decide | omega) (by first | exact Nat.le_refl _ | decide | omega)
              exact ⟨rfl, rfl⟩
            · skip
              grind
theorem ct_X8_mode_bad {t r m z : Int32} (hbad : ¬ ((0 ≤ t ∧ t < 6) ∧ (0 ≤ r ∧ r < 4) ∧ (0 ≤ m ∧ m ≤ 2) ∧ (1 ≤ z ∧ z ≤ 100000))) : qM yX8_mode cX8_mode 5 ((some .int)) 1 21 0 0 [.inr (.inr (some (33, 0))), .inl t, .inl r, .inl m, .inl z] h (pI fun x h' => x = -2 ∧ h' = h) := by
  refine qM.of (plainFor_of_name (by decide)) (Nat.le_of_ble_eq_true rfl) ?_
  refine V_iload_n 1 dX8_mode_0 rfl rfl ?_
  refine V_cS1i 4 (ct_X8_isTenant _ _) cs_X8_7 dX8_mode_1 rfl ⟨Nat.le_of_ble_eq_true rfl, Nat.le_of_ble_eq_true rfl⟩ (Nat.le_of_ble_eq_true rfl) ⟨Nat.le_of_ble_eq_true rfl, Nat.le_of_ble_eq_true rfl⟩ (fun x h' hx hle => ?_)
  obtain ⟨rfl, rfl⟩ := hx
  refine V_if_eq 36 7 dX8_mode_4 rfl rfl (fun c_4 => ?_) (fun c_4 => ?_)
  · skip
    refine V_bipush (v := (-2)) 38 dX8_mode_36 rfl (by decide) ?_
    refine V_iret dX8_mode_38 rfl rfl ⟨_, rfl, ?_⟩ (by first | exact Nat.le_refl _ | decide | omega) (by first | exact Nat.le_refl _ | decide | omega)
    exact ⟨rfl, rfl⟩
  · skip
    refine V_iload_n 8 dX8_mode_7 rfl rfl ?_
    refine V_cS1i 11 (ct_X8_isResource _ _) cs_X8_28 dX8_mode_8 rfl ⟨Nat.le_of_ble_eq_true rfl, Nat.le_of_ble_eq_true rfl⟩ (Nat.le_of_ble_eq_true rfl) ⟨Nat.le_of_ble_eq_true rfl, Nat.le_of_ble_eq_true rfl⟩ (fun x h' hx hle => ?_)
    obtain ⟨rfl, rfl⟩ := hx
    refine V_if_eq 36 14 dX8_mode_11 rfl rfl (fun c_11 => ?_) (fun c_11 => ?_)
    · skip
      refine V_bipush (v := (-2)) 38 dX8_mode_36 rfl (by decide) ?_
      refine V_iret dX8_mode_38 rfl rfl ⟨_, rfl, ?_⟩ (by first | exact Nat.le_refl _ | decide | omega) (by first | exact Nat.le_refl _ | decide | omega)
      exact ⟨rfl, rfl⟩
    · skip
      refine V_iload_n 15 dX8_mode_14 rfl rfl ?_
      refine V_if_lt 36 18 dX8_mode_15 rfl rfl (fun c_15 => ?_) (fun c_15 => ?_)
      · skip
        refine V_bipush (v := (-2)) 38 dX8_mode_36 rfl (by decide) ?_
        refine V_iret dX8_mode_38 rfl rfl ⟨_, rfl, ?_⟩ (by first | exact Nat.le_refl _ | decide | omega) (by first | exact Nat.le_refl _ | decide | omega)
        exact ⟨rfl, rfl⟩
      · skip
        refine V_iload_n 19 dX8_mode_18 rfl rfl ?_
        refine V_iconst (v := 2) 20 dX8_mode_19 rfl (by decide) ?_
        refine V_icmp_gt 36 23 dX8_mode_20 rfl rfl (fun c_20 => ?_) (fun c_20 => ?_)
        · skip
          refine V_bipush (v := (-2)) 38 dX8_mode_36 rfl (by decide) ?_
          refine V_iret dX8_mode_38 rfl rfl ⟨_, rfl, ?_⟩ (by first | exact Nat.le_refl _ | decide | omega) (by first | exact Nat.le_refl _ | decide | omega)
          exact ⟨rfl, rfl⟩
        · skip
          refine V_iload 25 dX8_mode_23 rfl rfl ?_
          refine V_iconst (v := 1) 26 dX8_mode_25 rfl (by decide) ?_
          refine V_icmp_lt 36 29 dX8_mode_26 rfl rfl (fun c_26 => ?_) (fun c_26 => ?_)
          · skip
            refine V_bipush (v := (-2)) 38 dX8_mode_36 rfl (by decide) ?_
            refine V_iret dX8_mode_38 rfl rfl ⟨_, rfl, ?_⟩ (by first | exact Nat.le_refl _ | decide | omega) (by first | exact Nat.le_refl _ | decide | omega)
            exact ⟨rfl, rfl⟩
          · skip
            refine V_iload 31 dX8_mode_29 rfl rfl ?_
            refine V_ldc (v := 100000) 33 dX8_mode_31 rfl wc_X8_173 ?_
            refine V_icmp_le 39 36 dX8_mode_33 rfl rfl (fun c_33 => ?_) (fun c_33 => ?_)
            · skip
              exfalso; grind
            · skip
              refine V_bipush (v := (-2)) 38 dX8_mode_36 rfl (by decide) ?_
              refine V_iret dX8_mode_38 rfl rfl ⟨_, rfl, ?_⟩ (by first | exact Nat.le_refl _ | decide | omega) (by first | exact Nat.le_refl _ | decide | omega)
              exact ⟨rfl, rfl⟩
def m_min (x y : Int64) : Int64 := if y < x then y else x
theorem ct_X8_tiers_ok {t r : Nat} {m : Int32} (hS : SHR h) (ht : t < 6) (hr : r < 4) (hm : 1 ≤ m ∧ m ≤ 5) : qM yX8_tiers cX8_tiers 5 ((some .int)) 1 23 0 0 [.inr (.inr (some (33, 0))), .inl (nI t), .inl (nI r), .inl m] h (pI fun x h' => x = (m_min m.toInt64 (qg_l h 46 0 (18 * (4 * t + r) + 2))).toInt32 ∧ h' = qs_l h 46 0 (18 * (4 * t + r) + 2) (m_min m.toInt64 (qg_l h 46 0 (18 * (4 * t + r) + 2)))) := by
  refine qM.of (plainFor_of_name (by decide)) (Nat.le_of_ble_eq_true rfl) ?_
  refine V_iload_n 1 dX8_tiers_0 rfl rfl ?_
  refine V_cS1i 4 (ct_isTen_ok ht) cs_X8_7 dX8_tiers_1 rfl ⟨Nat.le_of_ble_eq_true rfl, Nat.le_of_ble_eq_true rfl⟩ (Nat.le_of_ble_eq_true rfl) ⟨Nat.le_of_ble_eq_true rfl, Nat.le_of_ble_eq_true rfl⟩ (fun x h' hx hle => ?_)
  obtain ⟨rfl, rfl⟩ := hx
  refine V_if_eq 24 7 dX8_tiers_4 rfl rfl (fun c_4 => ?_) (fun c_4 => ?_)
  · skip
    exact absurd c_4 (by decide)
  · skip
    refine V_iload_n 8 dX8_tiers_7 rfl rfl ?_
    refine V_cS1i 11 (ct_isRes_ok hr) cs_X8_28 dX8_tiers_8 rfl ⟨Nat.le_of_ble_eq_true rfl, Nat.le_of_ble_eq_true rfl⟩ (Nat.le_of_ble_eq_true rfl) ⟨Nat.le_of_ble_eq_true rfl, Nat.le_of_ble_eq_true rfl⟩ (fun x h' hx hle => ?_)
    obtain ⟨rfl, rfl⟩ := hx
    refine V_if_eq 24 14 dX8_tiers_11 rfl rfl (fun c_11 => ?_) (fun c_11 => ?_)
    · skip
      exact absurd c_11 (by decide)
    · skip
      refine V_iload_n 15 dX8_tiers_14 rfl rfl ?_
      refine V_iconst (v := 1) 16 dX8_tiers_15 rfl (by decide) ?_
      refine V_icmp_lt 24 19 dX8_tiers_16 rfl rfl (fun c_16 => ?_) (fun c_16 => ?_)
      · skip
        grind
      · skip
        refine V_iload_n 20 dX8_tiers_19 rfl rfl ?_
        refine V_iconst (v := 5) 21 dX8_tiers_20 rfl (by decide) ?_
        refine V_icmp_le 27 24 dX8_tiers_21 rfl rfl (fun c_21 => ?_) (fun c_21 => ?_)
        · skip
          refine V_iload_n 28 dX8_tiers_27 rfl rfl ?_
          refine V_iload_n 29 dX8_tiers_28 rfl rfl ?_
          refine V_cS2i 32 (ct_X8_row _ _ _) cs_X8_174 dX8_tiers_29 rfl ⟨Nat.le_of_ble_eq_true rfl, Nat.le_of_ble_eq_true rfl⟩ (Nat.le_of_ble_eq_true rfl) ⟨Nat.le_of_ble_eq_true rfl, Nat.le_of_ble_eq_true rfl⟩ (fun x h' hx hle => ?_)
          obtain ⟨rfl, rfl⟩ := hx
          refine V_iconst (v := 2) 33 dX8_tiers_32 rfl (by decide) ?_
          refine V_iadd 34 dX8_tiers_33 rfl ?_
          rw [show nI (18 * (4 * t + r)) + 2 = nI (18 * (4 * t + r) + 2) from nI_add _ 2]
          refine V_istore 36 dX8_tiers_34 rfl (by decide) ?_
          refine V_aload_n 37 dX8_tiers_36 rfl rfl ?_
          refine V_getR 40 8 16 fl_X8_131 dX8_tiers_37 rfl rfl (by decide) (Or.inr ⟨_, rfl⟩) (by decide) (sr_16 hS) ?_
          refine V_iload 42 dX8_tiers_40 rfl rfl ?_
          refine V_iload_n 43 dX8_tiers_42 rfl rfl ?_
          refine V_i2l 44 dX8_tiers_43 rfl ?_
          refine V_aload_n 45 dX8_tiers_44 rfl rfl ?_
          refine V_getR 48 8 16 fl_X8_131 dX8_tiers_45 rfl rfl (by decide) (Or.inr ⟨_, rfl⟩) (by decide) (sr_16 hS) ?_
          refine V_iload 50 dX8_tiers_48 rfl rfl ?_
          refine V_laldN 51 (_) dX8_tiers_50 rfl rfl (by decide) rfl (show _ < 4752 by omega) (by decide) ?_
          refine V_cS2l 54 (ct_J9_min_f86c9 _ _ _) cs_X8_109 dX8_tiers_51 rfl ⟨Nat.le_of_ble_eq_true rfl, Nat.le_of_ble_eq_true rfl⟩ (Nat.le_of_ble_eq_true rfl) ⟨Nat.le_of_ble_eq_true rfl, Nat.le_of_ble_eq_true rfl⟩ (fun x h' hx hle => ?_)
          obtain ⟨rfl, rfl⟩ := hx
          refine V_lastN 55 (_) dX8_tiers_54 rfl rfl (by decide) rfl (show _ < 4752 by omega) (by decide) ?_
          refine V_aload_n 56 dX8_tiers_55 rfl rfl ?_
          refine V_getR 59 8 16 fl_X8_131 dX8_tiers_56 rfl rfl (by decide) (Or.inr ⟨_, rfl⟩) (by decide) (sr_16 hS) ?_
          refine V_iload 61 dX8_tiers_59 rfl rfl ?_
          refine V_laldN 62 (_) dX8_tiers_61 rfl rfl (by decide) rfl (show _ < 4752 by omega) (by decide) ?_
          refine V_l2i 63 dX8_tiers_62 rfl ?_
          refine V_iret dX8_tiers_63 rfl rfl ⟨_, rfl, ?_⟩ (by first | exact Nat.le_refl _ | decide | omega) (by first | exact Nat.le_refl _ | decide | omega)
          refine ⟨?_, rfl⟩
          simp [qll, m_min]
        · skip
          grind
theorem ct_X8_tiers_bad {t r m : Int32} (hbad : ¬ ((0 ≤ t ∧ t < 6) ∧ (0 ≤ r ∧ r < 4) ∧ (1 ≤ m ∧ m ≤ 5))) : qM yX8_tiers cX8_tiers 5 ((some .int)) 1 23 0 0 [.inr (.inr (some (33, 0))), .inl t, .inl r, .inl m] h (pI fun x h' => x = -2 ∧ h' = h) := by
  refine qM.of (plainFor_of_name (by decide)) (Nat.le_of_ble_eq_true rfl) ?_
  refine V_iload_n 1 dX8_tiers_0 rfl rfl ?_
  refine V_cS1i 4 (ct_X8_isTenant _ _) cs_X8_7 dX8_tiers_1 rfl ⟨Nat.le_of_ble_eq_true rfl, Nat.le_of_ble_eq_true rfl⟩ (Nat.le_of_ble_eq_true rfl) ⟨Nat.le_of_ble_eq_true rfl, Nat.le_of_ble_eq_true rfl⟩ (fun x h' hx hle => ?_)
  obtain ⟨rfl, rfl⟩ := hx
  refine V_if_eq 24 7 dX8_tiers_4 rfl rfl (fun c_4 => ?_) (fun c_4 => ?_)
  · skip
    refine V_bipush (v := (-2)) 26 dX8_tiers_24 rfl (by decide) ?_
    refine V_iret dX8_tiers_26 rfl rfl ⟨_, rfl, ?_⟩ (by first | exact Nat.le_refl _ | decide | omega) (by first | exact Nat.le_refl _ | decide | omega)
    exact ⟨rfl, rfl⟩
  · skip
    refine V_iload_n 8 dX8_tiers_7 rfl rfl ?_
    refine V_cS1i 11 (ct_X8_isResource _ _) cs_X8_28 dX8_tiers_8 rfl ⟨Nat.le_of_ble_eq_true rfl, Nat.le_of_ble_eq_true rfl⟩ (Nat.le_of_ble_eq_true rfl) ⟨Nat.le_of_ble_eq_true rfl, Nat.le_of_ble_eq_true rfl⟩ (fun x h' hx hle => ?_)
    obtain ⟨rfl, rfl⟩ := hx
    refine V_if_eq 24 14 dX8_tiers_11 rfl rfl (fun c_11 => ?_) (fun c_11 => ?_)
    · skip
      refine V_bipush (v := (-2)) 26 dX8_tiers_24 rfl (by decide) ?_
      refine V_iret dX8_tiers_26 rfl rfl ⟨_, rfl, ?_⟩ (by first | exact Nat.le_refl _ | decide | omega) (by first | exact Nat.le_refl _ | decide | omega)
      exact ⟨rfl, rfl⟩
    · skip
      refine V_iload_n 15 dX8_tiers_14 rfl rfl ?_
      refine V_iconst (v := 1) 16 dX8_tiers_15 rfl (by decide) ?_
      refine V_icmp_lt 24 19 dX8_tiers_16 rfl rfl (fun c_16 => ?_) (fun c_16 => ?_)
      · skip
        refine V_bipush (v := (-2)) 26 dX8_tiers_24 rfl (by decide) ?_
        refine V_iret dX8_tiers_26 rfl rfl ⟨_, rfl, ?_⟩ (by first | exact Nat.le_refl _ | decide | omega) (by first | exact Nat.le_refl _ | decide | omega)
        exact ⟨rfl, rfl⟩
      · skip
        refine V_iload_n 20 dX8_tiers_19 rfl rfl ?_
        refine V_iconst (v := 5) 21 dX8_tiers_20 rfl (by decide) ?_
        refine V_icmp_le 27 24 dX8_tiers_21 rfl rfl (fun c_21 => ?_) (fun c_21 => ?_)
        · skip
          exfalso; grind
        · skip
          refine V_bipush (v := (-2)) 26 dX8_tiers_24 rfl (by decide) ?_
          refine V_iret dX8_tiers_26 rfl rfl ⟨_, rfl, ?_⟩ (by first | exact Nat.le_refl _ | decide | omega) (by first | exact Nat.le_refl _ | decide | omega)
          exact ⟨rfl, rfl⟩
theorem ct_X8_terms_ok {t : Nat} {d x : Int32} {m : Int64} (hS : SHR h) (ht : t < 6) (hd : 0 ≤ d ∧ d ≤ 10000) (hm : 0 ≤ m ∧ m ≤ 1000000000000) (hx : 0 ≤ x ∧ x ≤ 10000) : qM yX8_terms cX8_terms 6 ((some .int)) 1 20 0 0 [.inr (.inr (some (33, 0))), .inl (nI t), .inl d, .inr (.inl m), .inl x] h (pI fun v h' => v = 0 ∧ h' = qs_i (qs_l (qs_i h 47 0 t d) 48 0 t m) 49 0 t x) := by
  refine qM.of (plainFor_of_name (by decide)) (Nat.le_of_ble_eq_true rfl) ?_
  refine V_iload_n 1 dX8_terms_0 rfl rfl ?_
  refine V_cS1i 4 (ct_isTen_ok ht) cs_X8_7 dX8_terms_1 rfl ⟨Nat.le_of_ble_eq_true rfl, Nat.le_of_ble_eq_true rfl⟩ (Nat.le_of_ble_eq_true rfl) ⟨Nat.le_of_ble_eq_true rfl, Nat.le_of_ble_eq_true rfl⟩ (fun x h' hx hle => ?_)
  obtain ⟨rfl, rfl⟩ := hx
  refine V_if_eq 45 7 dX8_terms_4 rfl rfl (fun c_4 => ?_) (fun c_4 => ?_)
  · skip
    exact absurd c_4 (by decide)
  · skip
    refine V_iload_n 8 dX8_terms_7 rfl rfl ?_
    refine V_if_lt 45 11 dX8_terms_8 rfl rfl (fun c_8 => ?_) (fun c_8 => ?_)
    · skip
      grind
    · skip
      refine V_iload_n 12 dX8_terms_11 rfl rfl ?_
      refine V_sipush (v := 10000) 15 dX8_terms_12 rfl (by decide) ?_
      refine V_icmp_gt 45 18 dX8_terms_15 rfl rfl (fun c_15 => ?_) (fun c_15 => ?_)
      · skip
        grind
      · skip
        refine V_lload_n 19 dX8_terms_18 rfl rfl ?_
        refine V_lconst (v := 0) 20 dX8_terms_19 rfl (by decide) ?_
        refine V_lcmp 21 dX8_terms_20 rfl ?_
        refine V_if_lt 45 24 dX8_terms_21 rfl rfl (fun c_21 => ?_) (fun c_21 => ?_)
        · (rw [lg_lt] at c_21)
          grind
        · (rw [lg_lt] at c_21)
          refine V_lload_n 25 dX8_terms_24 rfl rfl ?_
          refine V_ldc2 (v := 1000000000000) 28 dX8_terms_25 rfl wc_X8_185 ?_
          refine V_lcmp 29 dX8_terms_28 rfl ?_
          refine V_if_gt 45 32 dX8_terms_29 rfl rfl (fun c_29 => ?_) (fun c_29 => ?_)
          · (rw [lg_gt] at c_29)
            grind
          · (rw [lg_gt] at c_29)
            refine V_iload 34 dX8_terms_32 rfl rfl ?_
            refine V_if_lt 45 37 dX8_terms_34 rfl rfl (fun c_34 => ?_) (fun c_34 => ?_)
            · skip
              grind
            · skip
              refine V_iload 39 dX8_terms_37 rfl rfl ?_
              refine V_sipush (v := 10000) 42 dX8_terms_39 rfl (by decide) ?_
              refine V_icmp_le 48 45 dX8_terms_42 rfl rfl (fun c_42 => ?_) (fun c_42 => ?_)
              · skip
                refine V_aload_n 49 dX8_terms_48 rfl rfl ?_
                refine V_getR 52 8 17 fl_X8_134 dX8_terms_49 rfl rfl (by decide) (Or.inr ⟨_, rfl⟩) (by decide) (sr_17 hS) ?_
                refine V_iload_n 53 dX8_terms_52 rfl rfl ?_
                refine V_iload_n 54 dX8_terms_53 rfl rfl ?_
                refine V_iastN 55 (_) dX8_terms_54 rfl rfl (by decide) rfl (show _ < 6 by omega) (by decide) ?_
                refine V_aload_n 56 dX8_terms_55 rfl rfl ?_
                refine V_getR 59 8 18 fl_X8_137 dX8_terms_56 rfl rfl (by decide) (Or.inr ⟨_, rfl⟩) (by decide) (sr_18 hS) ?_
                refine V_iload_n 60 dX8_terms_59 rfl rfl ?_
                refine V_lload_n 61 dX8_terms_60 rfl rfl ?_
                refine V_lastN 62 (_) dX8_terms_61 rfl rfl (by decide) rfl (show _ < 6 by omega) (by decide) ?_
                refine V_aload_n 63 dX8_terms_62 rfl rfl ?_
                refine V_getR 66 8 19 fl_X8_140 dX8_terms_63 rfl rfl (by decide) (Or.inr ⟨_, rfl⟩) (by decide) (sr_19 hS) ?_
                refine V_iload_n 67 dX8_terms_66 rfl rfl ?_
                refine V_iload 69 dX8_terms_67 rfl rfl ?_
                refine V_iastN 70 (_) dX8_terms_69 rfl rfl (by decide) rfl (show _ < 6 by omega) (by decide) ?_
                refine V_iconst (v := 0) 71 dX8_terms_70 rfl (by decide) ?_
                refine V_iret dX8_terms_71 rfl rfl ⟨_, rfl, ?_⟩ (by first | exact Nat.le_refl _ | decide | omega) (by first | exact Nat.le_refl _ | decide | omega)
                exact ⟨rfl, rfl⟩
              · skip
                grind
theorem ct_X8_terms_bad {t d x : Int32} {m : Int64} (hbad : ¬ ((0 ≤ t ∧ t < 6) ∧ (0 ≤ d ∧ d ≤ 10000) ∧ (0 ≤ m ∧ m ≤ 1000000000000) ∧ (0 ≤ x ∧ x ≤ 10000))) : qM yX8_terms cX8_terms 6 ((some .int)) 1 20 0 0 [.inr (.inr (some (33, 0))), .inl t, .inl d, .inr (.inl m), .inl x] h (pI fun v h' => v = -2 ∧ h' = h) := by
  refine qM.of (plainFor_of_name (by decide)) (Nat.le_of_ble_eq_true rfl) ?_
  refine V_iload_n 1 dX8_terms_0 rfl rfl ?_
  refine V_cS1i 4 (ct_X8_isTenant _ _) cs_X8_7 dX8_terms_1 rfl ⟨Nat.le_of_ble_eq_true rfl, Nat.le_of_ble_eq_true rfl⟩ (Nat.le_of_ble_eq_true rfl) ⟨Nat.le_of_ble_eq_true rfl, Nat.le_of_ble_eq_true rfl⟩ (fun x h' hx hle => ?_)
  obtain ⟨rfl, rfl⟩ := hx
  refine V_if_eq 45 7 dX8_terms_4 rfl rfl (fun c_4 => ?_) (fun c_4 => ?_)
  · skip
    refine V_bipush (v := (-2)) 47 dX8_terms_45 rfl (by decide) ?_
    refine V_iret dX8_terms_47 rfl rfl ⟨_, rfl, ?_⟩ (by first | exact Nat.le_refl _ | decide | omega) (by first | exact Nat.le_refl _ | decide | omega)
    exact ⟨rfl, rfl⟩
  · skip
    refine V_iload_n 8 dX8_terms_7 rfl rfl ?_
    refine V_if_lt 45 11 dX8_terms_8 rfl rfl (fun c_8 => ?_) (fun c_8 => ?_)
    · skip
      refine V_bipush (v := (-2)) 47 dX8_terms_45 rfl (by decide) ?_
      refine V_iret dX8_terms_47 rfl rfl ⟨_, rfl, ?_⟩ (by first | exact Nat.le_refl _ | decide | omega) (by first | exact Nat.le_refl _ | decide | omega)
      exact ⟨rfl, rfl⟩
    · skip
      refine V_iload_n 12 dX8_terms_11 rfl rfl ?_
      refine V_sipush (v := 10000) 15 dX8_terms_12 rfl (by decide) ?_
      refine V_icmp_gt 45 18 dX8_terms_15 rfl rfl (fun c_15 => ?_) (fun c_15 => ?_)
      · skip
        refine V_bipush (v := (-2)) 47 dX8_terms_45 rfl (by decide) ?_
        refine V_iret dX8_terms_47 rfl rfl ⟨_, rfl, ?_⟩ (by first | exact Nat.le_refl _ | decide | omega) (by first | exact Nat.le_refl _ | decide | omega)
        exact ⟨rfl, rfl⟩
      · skip
        refine V_lload_n 19 dX8_terms_18 rfl rfl ?_
        refine V_lconst (v := 0) 20 dX8_terms_19 rfl (by decide) ?_
        refine V_lcmp 21 dX8_terms_20 rfl ?_
        refine V_if_lt 45 24 dX8_terms_21 rfl rfl (fun c_21 => ?_) (fun c_21 => ?_)
        · (rw [lg_lt] at c_21)
          refine V_bipush (v := (-2)) 47 dX8_terms_45 rfl (by decide) ?_
          refine V_iret dX8_terms_47 rfl rfl ⟨_, rfl, ?_⟩ (by first | exact Nat.le_refl _ | decide | omega) (by first | exact Nat.le_refl _ | decide | omega)
          exact ⟨rfl, rfl⟩
        · (rw [lg_lt] at c_21)
          refine V_lload_n 25 dX8_terms_24 rfl rfl ?_
          refine V_ldc2 (v := 1000000000000) 28 dX8_terms_25 rfl wc_X8_185 ?_
          refine V_lcmp 29 dX8_terms_28 rfl ?_
          refine V_if_gt 45 32 dX8_terms_29 rfl rfl (fun c_29 => ?_) (fun c_29 => ?_)
          · (rw [lg_gt] at c_29)
            refine V_bipush (v := (-2)) 47 dX8_terms_45 rfl (by decide) ?_
            refine V_iret dX8_terms_47 rfl rfl ⟨_, rfl, ?_⟩ (by first | exact Nat.le_refl _ | decide | omega) (by first | exact Nat.le_refl _ | decide | omega)
            exact ⟨rfl, rfl⟩
          · (rw [lg_gt] at c_29)
            refine V_iload 34 dX8_terms_32 rfl rfl ?_
            refine V_if_lt 45 37 dX8_terms_34 rfl rfl (fun c_34 => ?_) (fun c_34 => ?_)
            · skip
              refine V_bipush (v := (-2)) 47 dX8_terms_45 rfl (by decide) ?_
              refine V_iret dX8_terms_47 rfl rfl ⟨_, rfl, ?_⟩ (by first | exact Nat.le_refl _ | decide | omega) (by first | exact Nat.le_refl _ | decide | omega)
              exact ⟨rfl, rfl⟩
            · skip
              refine V_iload 39 dX8_terms_37 rfl rfl ?_
              refine V_sipush (v := 10000) 42 dX8_terms_39 rfl (by decide) ?_
              refine V_icmp_le 48 45 dX8_terms_42 rfl rfl (fun c_42 => ?_) (fun c_42 => ?_)
              · skip
                exfalso; grind
              · skip
                refine V_bipush (v := (-2)) 47 dX8_terms_45 rfl (by decide) ?_
                refine V_iret dX8_terms_47 rfl rfl ⟨_, rfl, ?_⟩ (by first | exact Nat.le_refl _ | decide | omega) (by first | exact Nat.le_refl _ | decide | omega)
                exact ⟨rfl, rfl⟩
def m_left (h : qH) (t k : Nat) : Int64 := if qg_i h 52 0 (40 * t + k) < qg_i h 53 0 t then 0 else qg_l h 51 0 (40 * t + k)
theorem ct_X8_leftOf {t k : Nat} (hS : SHR h) (ht : t < 6) (hk : k < 40) : qM yX8_leftOf cX8_leftOf 4 ((some .long)) 0 0 0 0 [.inr (.inr (some (33, 0))), .inl (nI t), .inl (nI k)] h (pL fun x h' => x = m_left h t k ∧ h' = h) := by
  have e4 : (40 : Int32) * nI t + nI k = nI (40 * t + k) := by rw [show (40 : Int32) = nI 40 from rfl, pk_mul, nI_add]
  refine qM.of (plainFor_of_name (by decide)) (Nat.le_of_ble_eq_true rfl) ?_
  refine V_bipush (v := 40) 2 dX8_leftOf_0 rfl (by decide) ?_
  refine V_iload_n 3 dX8_leftOf_2 rfl rfl ?_
  refine V_imul 4 dX8_leftOf_3 rfl ?_
  refine V_iload_n 5 dX8_leftOf_4 rfl rfl ?_
  refine V_iadd 6 dX8_leftOf_5 rfl ?_
  rw [e4]
  refine V_istore_n 7 dX8_leftOf_6 rfl (by decide) ?_
  refine V_aload_n 8 dX8_leftOf_7 rfl rfl ?_
  refine V_getR 11 8 22 fl_X8_149 dX8_leftOf_8 rfl rfl (by decide) (Or.inr ⟨_, rfl⟩) (by decide) (sr_22 hS) ?_
  refine V_iload_n 12 dX8_leftOf_11 rfl rfl ?_
  refine V_ialdN 13 (_) dX8_leftOf_12 rfl rfl (by decide) rfl (show _ < 240 by omega) (by decide) ?_
  refine V_aload_n 14 dX8_leftOf_13 rfl rfl ?_
  refine V_getR 17 8 23 fl_X8_49 dX8_leftOf_14 rfl rfl (by decide) (Or.inr ⟨_, rfl⟩) (by decide) (sr_23 hS) ?_
  refine V_iload_n 18 dX8_leftOf_17 rfl rfl ?_
  refine V_ialdN 19 (_) dX8_leftOf_18 rfl rfl (by decide) rfl (show _ < 6 by omega) (by decide) ?_
  refine V_icmp_ge 26 22 dX8_leftOf_19 rfl rfl (fun c_19 => ?_) (fun c_19 => ?_)
  · skip
    refine V_aload_n 27 dX8_leftOf_26 rfl rfl ?_
    refine V_getR 30 8 21 fl_X8_146 dX8_leftOf_27 rfl rfl (by decide) (Or.inr ⟨_, rfl⟩) (by decide) (sr_21 hS) ?_
    refine V_iload_n 31 dX8_leftOf_30 rfl rfl ?_
    refine V_laldN 32 (_) dX8_leftOf_31 rfl rfl (by decide) rfl (show _ < 240 by omega) (by decide) ?_
    refine V_lret dX8_leftOf_32 rfl ⟨_, rfl, ?_⟩ (by first | exact Nat.le_refl _ | decide | omega) (by first | exact Nat.le_refl _ | decide | omega)
    refine ⟨?_, rfl⟩
    unfold m_left
    grind
  · skip
    refine V_lconst (v := 0) 23 dX8_leftOf_22 rfl (by decide) ?_
    refine V_goto 32 dX8_leftOf_23 rfl ?_
    refine V_lret dX8_leftOf_32 rfl ⟨_, rfl, ?_⟩ (by first | exact Nat.le_refl _ | decide | omega) (by first | exact Nat.le_refl _ | decide | omega)
    refine ⟨?_, rfl⟩
    unfold m_left
    grind
theorem ct_X8_left_ok {t k nc : Nat} (hS : SHR h) (ht : t < 6) (hc : qg_i h 50 0 t = nI nc) (hnc : nc ≤ 40) (hk : k < nc) : qM yX8_left cX8_left 3 ((some .long)) 1 23 0 0 [.inr (.inr (some (33, 0))), .inl (nI t), .inl (nI k)] h (pL fun x h' => x = m_left h t k ∧ h' = h) := by
  refine qM.of (plainFor_of_name (by decide)) (Nat.le_of_ble_eq_true rfl) ?_
  refine V_iload_n 1 dX8_left_0 rfl rfl ?_
  refine V_cS1i 4 (ct_isTen_ok ht) cs_X8_7 dX8_left_1 rfl ⟨Nat.le_of_ble_eq_true rfl, Nat.le_of_ble_eq_true rfl⟩ (Nat.le_of_ble_eq_true rfl) ⟨Nat.le_of_ble_eq_true rfl, Nat.le_of_ble_eq_true rfl⟩ (fun x h' hx hle => ?_)
  obtain ⟨rfl, rfl⟩ := hx
  refine V_if_eq 30 7 dX8_left_4 rfl rfl (fun c_4 => ?_) (fun c_4 => ?_)
  · skip
    exact absurd c_4 (by decide)
  · skip
    refine V_iload_n 8 dX8_left_7 rfl rfl ?_
    refine V_if_lt 30 11 dX8_left_8 rfl rfl (fun c_8 => ?_) (fun c_8 => ?_)
    · skip
      exact absurd c_8 (nI_pos (by omega))
    · skip
      refine V_iload_n 12 dX8_left_11 rfl rfl ?_
      refine V_aload_n 13 dX8_left_12 rfl rfl ?_
      refine V_getR 16 8 20 fl_X8_143 dX8_left_13 rfl rfl (by decide) (Or.inr ⟨_, rfl⟩) (by decide) (sr_20 hS) ?_
      refine V_iload_n 17 dX8_left_16 rfl rfl ?_
      refine V_ialdV 18 (_) dX8_left_17 rfl rfl (by decide) rfl (show _ < 6 by omega) (by decide) hc ?_
      refine V_icmp_ge 30 21 dX8_left_18 rfl rfl (fun c_18 => ?_) (fun c_18 => ?_)
      · skip
        exact absurd c_18 (nI_ge hk (by omega))
      · skip
        refine V_aload_n 22 dX8_left_21 rfl rfl ?_
        refine V_iload_n 23 dX8_left_22 rfl rfl ?_
        refine V_iload_n 24 dX8_left_23 rfl rfl ?_
        refine V_cV2l 27 (ct_X8_leftOf hS ht (by omega)) cs_X8_187 rfl rfl (by decide) dX8_left_24 rfl ⟨Nat.le_of_ble_eq_true rfl, Nat.le_of_ble_eq_true rfl⟩ (Nat.le_of_ble_eq_true rfl) ⟨Nat.le_of_ble_eq_true rfl, Nat.le_of_ble_eq_true rfl⟩ (fun x h' hx hle => ?_)
        obtain ⟨rfl, rfl⟩ := hx
        refine V_goto 33 dX8_left_27 rfl ?_
        refine V_lret dX8_left_33 rfl ⟨_, rfl, ?_⟩ (by first | exact Nat.le_refl _ | decide | omega) (by first | exact Nat.le_refl _ | decide | omega)
        exact ⟨rfl, rfl⟩
theorem ct_X8_left_bad {t k : Int32} (hS : SHR h) (hbad : ¬ ((0 ≤ t ∧ t < 6) ∧ ∃ t' : Nat, t' < 6 ∧ t = nI t' ∧ (0 ≤ k ∧ k < qg_i h 50 0 t'))) : qM yX8_left cX8_left 3 ((some .long)) 1 23 0 0 [.inr (.inr (some (33, 0))), .inl t, .inl k] h (pL fun x h' => x = -2 ∧ h' = h) := by
  refine qM.of (plainFor_of_name (by decide)) (Nat.le_of_ble_eq_true rfl) ?_
  refine V_iload_n 1 dX8_left_0 rfl rfl ?_
  refine V_cS1i 4 (ct_X8_isTenant _ _) cs_X8_7 dX8_left_1 rfl ⟨Nat.le_of_ble_eq_true rfl, Nat.le_of_ble_eq_true rfl⟩ (Nat.le_of_ble_eq_true rfl) ⟨Nat.le_of_ble_eq_true rfl, Nat.le_of_ble_eq_true rfl⟩ (fun x h' hx hle => ?_)
  obtain ⟨rfl, rfl⟩ := hx
  refine V_if_eq 30 7 dX8_left_4 rfl rfl (fun c_4 => ?_) (fun c_4 => ?_)
  · skip
    refine V_ldc2 (v := -2) 33 dX8_left_30 rfl wc_X8_75 ?_
    refine V_lret dX8_left_33 rfl ⟨_, rfl, ?_⟩ (by first | exact Nat.le_refl _ | decide | omega) (by first | exact Nat.le_refl _ | decide | omega)
    exact ⟨rfl, rfl⟩
  · skip
    refine V_iload_n 8 dX8_left_7 rfl rfl ?_
    refine V_if_lt 30 11 dX8_left_8 rfl rfl (fun c_8 => ?_) (fun c_8 => ?_)
    · skip
      refine V_ldc2 (v := -2) 33 dX8_left_30 rfl wc_X8_75 ?_
      refine V_lret dX8_left_33 rfl ⟨_, rfl, ?_⟩ (by first | exact Nat.le_refl _ | decide | omega) (by first | exact Nat.le_refl _ | decide | omega)
      exact ⟨rfl, rfl⟩
    · skip
      obtain ⟨b, hb, rfl⟩ := res_of (n := 6) (by decide) c_4
      refine V_iload_n 12 dX8_left_11 rfl rfl ?_
      refine V_aload_n 13 dX8_left_12 rfl rfl ?_
      refine V_getR 16 8 20 fl_X8_143 dX8_left_13 rfl rfl (by decide) (Or.inr ⟨_, rfl⟩) (by decide) (sr_20 hS) ?_
      refine V_iload_n 17 dX8_left_16 rfl rfl ?_
      refine V_ialdN 18 (_) dX8_left_17 rfl rfl (by decide) rfl (show _ < 6 by omega) (by decide) ?_
      refine V_icmp_ge 30 21 dX8_left_18 rfl rfl (fun c_18 => ?_) (fun c_18 => ?_)
      · skip
        refine V_ldc2 (v := -2) 33 dX8_left_30 rfl wc_X8_75 ?_
        refine V_lret dX8_left_33 rfl ⟨_, rfl, ?_⟩ (by first | exact Nat.le_refl _ | decide | omega) (by first | exact Nat.le_refl _ | decide | omega)
        exact ⟨rfl, rfl⟩
      · skip
        exact absurd ⟨⟨nI_pos' (by omega), nI_lt (b := 6) hb (by omega)⟩, b, hb, rfl, by grind⟩ hbad
theorem ct_X8_closed_ok {t : Nat} (hS : SHR h) (ht : t < 6) : qM yX8_closed cX8_closed 2 ((some .int)) 1 20 0 0 [.inr (.inr (some (33, 0))), .inl (nI t)] h (pI fun x h' => x = qg_i h 53 0 t ∧ h' = h) := by
  refine qM.of (plainFor_of_name (by decide)) (Nat.le_of_ble_eq_true rfl) ?_
  refine V_iload_n 1 dX8_closed_0 rfl rfl ?_
  refine V_cS1i 4 (ct_isTen_ok ht) cs_X8_7 dX8_closed_1 rfl ⟨Nat.le_of_ble_eq_true rfl, Nat.le_of_ble_eq_true rfl⟩ (Nat.le_of_ble_eq_true rfl) ⟨Nat.le_of_ble_eq_true rfl, Nat.le_of_ble_eq_true rfl⟩ (fun x h' hx hle => ?_)
  obtain ⟨rfl, rfl⟩ := hx
  refine V_if_eq 16 7 dX8_closed_4 rfl rfl (fun c_4 => ?_) (fun c_4 => ?_)
  · skip
    exact absurd c_4 (by decide)
  · skip
    refine V_aload_n 8 dX8_closed_7 rfl rfl ?_
    refine V_getR 11 8 23 fl_X8_49 dX8_closed_8 rfl rfl (by decide) (Or.inr ⟨_, rfl⟩) (by decide) (sr_23 hS) ?_
    refine V_iload_n 12 dX8_closed_11 rfl rfl ?_
    refine V_ialdN 13 (_) dX8_closed_12 rfl rfl (by decide) rfl (show _ < 6 by omega) (by decide) ?_
    refine V_goto 18 dX8_closed_13 rfl ?_
    refine V_iret dX8_closed_18 rfl rfl ⟨_, rfl, ?_⟩ (by first | exact Nat.le_refl _ | decide | omega) (by first | exact Nat.le_refl _ | decide | omega)
    exact ⟨rfl, rfl⟩
theorem ct_X8_closed_bad {t : Int32} (hbad : ¬ (0 ≤ t ∧ t < 6)) : qM yX8_closed cX8_closed 2 ((some .int)) 1 20 0 0 [.inr (.inr (some (33, 0))), .inl t] h (pI fun x h' => x = -2 ∧ h' = h) := by
  refine qM.of (plainFor_of_name (by decide)) (Nat.le_of_ble_eq_true rfl) ?_
  refine V_iload_n 1 dX8_closed_0 rfl rfl ?_
  refine V_cS1i 4 (ct_X8_isTenant _ _) cs_X8_7 dX8_closed_1 rfl ⟨Nat.le_of_ble_eq_true rfl, Nat.le_of_ble_eq_true rfl⟩ (Nat.le_of_ble_eq_true rfl) ⟨Nat.le_of_ble_eq_true rfl, Nat.le_of_ble_eq_true rfl⟩ (fun x h' hx hle => ?_)
  obtain ⟨rfl, rfl⟩ := hx
  refine V_if_eq 16 7 dX8_closed_4 rfl rfl (fun c_4 => ?_) (fun c_4 => ?_)
  · skip
    refine V_bipush (v := (-2)) 18 dX8_closed_16 rfl (by decide) ?_
    refine V_iret dX8_closed_18 rfl rfl ⟨_, rfl, ?_⟩ (by first | exact Nat.le_refl _ | decide | omega) (by first | exact Nat.le_refl _ | decide | omega)
    exact ⟨rfl, rfl⟩
  · skip
    exfalso; grind
def m_some (h : qH) (t k : Nat) : Int32 := if 0 < m_left h t k then 1 else 0
theorem lp_X8_credit {t nc : Nat} {m : Int64} {p : Int32} (hS : SHR h) (ht : t < 6) (hc : qg_i h 50 0 t = nI nc) (hnc : nc ≤ 40) {n0 : Nat → Nat} {Post : Option qV → qH → Prop} 
    (K : Vw yX8_credit cX8_credit 7 ((some .int)) (qrm 1 23 0 0) 0 0 n0 Post 92 [(0, .inr (.inr (some (33, 0)))), (1, .inl (nI t)), (2, .inr (.inl m)), (4, .inl p), (5, .inl (sm_i (m_some h t) nc))] [] h 0 0) :
    ∀ (n i : Nat), i + n = nc → Vw yX8_credit cX8_credit 7 ((some .int)) (qrm 1 23 0 0) 0 0 n0 Post 53 [(0, .inr (.inr (some (33, 0)))), (1, .inl (nI t)), (2, .inr (.inl m)), (4, .inl p), (5, .inl (sm_i (m_some h t) i)), (6, .inl (nI i))] [] h 0 0 := by
  intro n
  induction n with
  | zero =>
    intro i hi
    have hi : i = nc := by omega
    subst hi
    refine V_iload 55 dX8_credit_53 rfl rfl ?_
    refine V_aload_n 56 dX8_credit_55 rfl rfl ?_
    refine V_getR 59 8 20 fl_X8_143 dX8_credit_56 rfl rfl (by decide) (Or.inr ⟨_, rfl⟩) (by decide) (sr_20 hS) ?_
    refine V_iload_n 60 dX8_credit_59 rfl rfl ?_
    refine V_ialdV 61 (_) dX8_credit_60 rfl rfl (by decide) rfl (show _ < 6 by omega) (by decide) hc ?_
    refine V_icmp_ge 92 64 dX8_credit_61 rfl rfl (fun c_61 => ?_) (fun c_61 => ?_)
    · skip
      exact V_at K ⟨rfl, rfl, rfl, rfl, rfl, trivial⟩
    · skip
      exact absurd (nI_le (Nat.le_refl _) (by omega)) c_61
  | succ n ih =>
    intro i hi
    refine V_iload 55 dX8_credit_53 rfl rfl ?_
    refine V_aload_n 56 dX8_credit_55 rfl rfl ?_
    refine V_getR 59 8 20 fl_X8_143 dX8_credit_56 rfl rfl (by decide) (Or.inr ⟨_, rfl⟩) (by decide) (sr_20 hS) ?_
    refine V_iload_n 60 dX8_credit_59 rfl rfl ?_
    refine V_ialdV 61 (_) dX8_credit_60 rfl rfl (by decide) rfl (show _ < 6 by omega) (by decide) hc ?_
    refine V_icmp_ge 92 64 dX8_credit_61 rfl rfl (fun c_61 => ?_) (fun c_61 => ?_)
    · skip
      exact absurd c_61 (nI_ge (by omega) (by omega))
    · skip
      refine V_iload 66 dX8_credit_64 rfl rfl ?_
      refine V_aload_n 67 dX8_credit_66 rfl rfl ?_
      refine V_iload_n 68 dX8_credit_67 rfl rfl ?_
      refine V_iload 70 dX8_credit_68 rfl rfl ?_
      refine V_cV2l 73 (ct_X8_leftOf hS ht (by omega)) cs_X8_187 rfl rfl (by decide) dX8_credit_70 rfl ⟨Nat.le_of_ble_eq_true rfl, Nat.le_of_ble_eq_true rfl⟩ (Nat.le_of_ble_eq_true rfl) ⟨Nat.le_of_ble_eq_true rfl, Nat.le_of_ble_eq_true rfl⟩ (fun x h' hx hle => ?_)
      obtain ⟨rfl, rfl⟩ := hx
      refine V_lconst (v := 0) 74 dX8_credit_73 rfl (by decide) ?_
      refine V_lcmp 75 dX8_credit_74 rfl ?_
      refine V_if_le 82 78 dX8_credit_75 rfl rfl (fun c_75 => ?_) (fun c_75 => ?_)
      · (rw [lg_le] at c_75)
        refine V_iconst (v := 0) 83 dX8_credit_82 rfl (by decide) ?_
        refine V_iadd 84 dX8_credit_83 rfl ?_
        refine V_istore 86 dX8_credit_84 rfl (by decide) ?_
        refine V_iincN 89 dX8_credit_86 rfl rfl (by decide) ?_
        refine V_goto 53 dX8_credit_89 rfl ?_
        refine V_at (ih (i + 1) (by omega)) ⟨rfl, rfl, rfl, rfl, ?_, rfl, trivial⟩
        show some _ = some _
        simp only [sm_i, m_some]
        grind
      · (rw [lg_le] at c_75)
        refine V_iconst (v := 1) 79 dX8_credit_78 rfl (by decide) ?_
        refine V_goto 83 dX8_credit_79 rfl ?_
        refine V_iadd 84 dX8_credit_83 rfl ?_
        refine V_istore 86 dX8_credit_84 rfl (by decide) ?_
        refine V_iincN 89 dX8_credit_86 rfl rfl (by decide) ?_
        refine V_goto 53 dX8_credit_89 rfl ?_
        refine V_at (ih (i + 1) (by omega)) ⟨rfl, rfl, rfl, rfl, ?_, rfl, trivial⟩
        show some _ = some _
        simp only [sm_i, m_some]
        grind
theorem ct_X8_credit_ok {t nc : Nat} {m : Int64} {p : Int32} (hS : SHR h) (ht : t < 6) (hc : qg_i h 50 0 t = nI nc) (hnc : nc < 40) (hm : 1 ≤ m ∧ m ≤ 1000000000000) (hp : 0 ≤ p ∧ p < 100) (hpc : qg_i h 53 0 t ≤ p) (hs : sm_i (m_some h t) nc ≠ 10) : qM yX8_credit cX8_credit 7 ((some .int)) 1 23 0 0 [.inr (.inr (some (33, 0))), .inl (nI t), .inr (.inl m), .inl p] h (pI fun x h' => x = nI nc ∧ h' = qs_i (qs_i (qs_l h 51 0 (40 * t + nc) m) 52 0 (40 * t + nc) p) 50 0 t (nI (nc + 1))) := by
  have e4 : (40 : Int32) * nI t + nI nc = nI (40 * t + nc) := by rw [show (40 : Int32) = nI 40 from rfl, pk_mul, nI_add]
  refine qM.of (plainFor_of_name (by decide)) (Nat.le_of_ble_eq_true rfl) ?_
  refine V_iload_n 1 dX8_credit_0 rfl rfl ?_
  refine V_cS1i 4 (ct_isTen_ok ht) cs_X8_7 dX8_credit_1 rfl ⟨Nat.le_of_ble_eq_true rfl, Nat.le_of_ble_eq_true rfl⟩ (Nat.le_of_ble_eq_true rfl) ⟨Nat.le_of_ble_eq_true rfl, Nat.le_of_ble_eq_true rfl⟩ (fun x h' hx hle => ?_)
  obtain ⟨rfl, rfl⟩ := hx
  refine V_if_eq 44 7 dX8_credit_4 rfl rfl (fun c_4 => ?_) (fun c_4 => ?_)
  · skip
    exact absurd c_4 (by decide)
  · skip
    refine V_lload_n 8 dX8_credit_7 rfl rfl ?_
    refine V_lconst (v := 1) 9 dX8_credit_8 rfl (by decide) ?_
    refine V_lcmp 10 dX8_credit_9 rfl ?_
    refine V_if_lt 44 13 dX8_credit_10 rfl rfl (fun c_10 => ?_) (fun c_10 => ?_)
    · (rw [lg_lt] at c_10)
      grind
    · (rw [lg_lt] at c_10)
      refine V_lload_n 14 dX8_credit_13 rfl rfl ?_
      refine V_ldc2 (v := 1000000000000) 17 dX8_credit_14 rfl wc_X8_185 ?_
      refine V_lcmp 18 dX8_credit_17 rfl ?_
      refine V_if_gt 44 21 dX8_credit_18 rfl rfl (fun c_18 => ?_) (fun c_18 => ?_)
      · (rw [lg_gt] at c_18)
        grind
      · (rw [lg_gt] at c_18)
        refine V_iload 23 dX8_credit_21 rfl rfl ?_
        refine V_if_lt 44 26 dX8_credit_23 rfl rfl (fun c_23 => ?_) (fun c_23 => ?_)
        · skip
          grind
        · skip
          refine V_iload 28 dX8_credit_26 rfl rfl ?_
          refine V_bipush (v := 100) 30 dX8_credit_28 rfl (by decide) ?_
          refine V_icmp_ge 44 33 dX8_credit_30 rfl rfl (fun c_30 => ?_) (fun c_30 => ?_)
          · skip
            grind
          · skip
            refine V_iload 35 dX8_credit_33 rfl rfl ?_
            refine V_aload_n 36 dX8_credit_35 rfl rfl ?_
            refine V_getR 39 8 23 fl_X8_49 dX8_credit_36 rfl rfl (by decide) (Or.inr ⟨_, rfl⟩) (by decide) (sr_23 hS) ?_
            refine V_iload_n 40 dX8_credit_39 rfl rfl ?_
            refine V_ialdN 41 (_) dX8_credit_40 rfl rfl (by decide) rfl (show _ < 6 by omega) (by decide) ?_
            refine V_icmp_ge 47 44 dX8_credit_41 rfl rfl (fun c_41 => ?_) (fun c_41 => ?_)
            · skip
              refine V_iconst (v := 0) 48 dX8_credit_47 rfl (by decide) ?_
              refine V_istore 50 dX8_credit_48 rfl (by decide) ?_
              refine V_iconst (v := 0) 51 dX8_credit_50 rfl (by decide) ?_
              refine V_istore 53 dX8_credit_51 rfl (by decide) ?_
              refine V_at (lp_X8_credit (m := m) (p := p) hS ht hc (by omega) ?_ nc 0 (by omega)) ⟨rfl, rfl, rfl, rfl, rfl, rfl, trivial⟩
              refine V_iload 94 dX8_credit_92 rfl rfl ?_
              refine V_bipush (v := 10) 96 dX8_credit_94 rfl (by decide) ?_
              refine V_icmp_eq 110 99 dX8_credit_96 rfl rfl (fun c_96 => ?_) (fun c_96 => ?_)
              · skip
                exact absurd c_96 hs
              · skip
                refine V_aload_n 100 dX8_credit_99 rfl rfl ?_
                refine V_getR 103 8 20 fl_X8_143 dX8_credit_100 rfl rfl (by decide) (Or.inr ⟨_, rfl⟩) (by decide) (sr_20 hS) ?_
                refine V_iload_n 104 dX8_credit_103 rfl rfl ?_
                refine V_ialdV 105 (_) dX8_credit_104 rfl rfl (by decide) rfl (show _ < 6 by omega) (by decide) hc ?_
                refine V_bipush (v := 40) 107 dX8_credit_105 rfl (by decide) ?_
                refine V_icmp_ne 113 110 dX8_credit_107 rfl rfl (fun c_107 => ?_) (fun c_107 => ?_)
                · skip
                  refine V_aload_n 114 dX8_credit_113 rfl rfl ?_
                  refine V_getR 117 8 21 fl_X8_146 dX8_credit_114 rfl rfl (by decide) (Or.inr ⟨_, rfl⟩) (by decide) (sr_21 hS) ?_
                  refine V_bipush (v := 40) 119 dX8_credit_117 rfl (by decide) ?_
                  refine V_iload_n 120 dX8_credit_119 rfl rfl ?_
                  refine V_imul 121 dX8_credit_120 rfl ?_
                  refine V_aload_n 122 dX8_credit_121 rfl rfl ?_
                  refine V_getR 125 8 20 fl_X8_143 dX8_credit_122 rfl rfl (by decide) (Or.inr ⟨_, rfl⟩) (by decide) (sr_20 hS) ?_
                  refine V_iload_n 126 dX8_credit_125 rfl rfl ?_
                  refine V_ialdV 127 (_) dX8_credit_126 rfl rfl (by decide) rfl (show _ < 6 by omega) (by decide) hc ?_
                  refine V_iadd 128 dX8_credit_127 rfl ?_
                  refine V_lload_n 129 dX8_credit_128 rfl rfl ?_
                  refine V_lastN 130 (40 * t + nc) dX8_credit_129 rfl rfl (by decide) e4 (show _ < 240 by omega) (by decide) ?_
                  refine V_aload_n 131 dX8_credit_130 rfl rfl ?_
                  refine V_getR 134 8 22 fl_X8_149 dX8_credit_131 rfl rfl (by decide) (Or.inr ⟨_, rfl⟩) (by decide) (sr_22 hS) ?_
                  refine V_bipush (v := 40) 136 dX8_credit_134 rfl (by decide) ?_
                  refine V_iload_n 137 dX8_credit_136 rfl rfl ?_
                  refine V_imul 138 dX8_credit_137 rfl ?_
                  refine V_aload_n 139 dX8_credit_138 rfl rfl ?_
                  refine V_getR 142 8 20 fl_X8_143 dX8_credit_139 rfl rfl (by decide) (Or.inr ⟨_, rfl⟩) (by decide) (sr_20 hS) ?_
                  refine V_iload_n 143 dX8_credit_142 rfl rfl ?_
                  refine V_ialdV 144 (_) dX8_credit_143 rfl rfl (by decide) rfl (show _ < 6 by omega) (by decide) hc ?_
                  refine V_iadd 145 dX8_credit_144 rfl ?_
                  refine V_iload 147 dX8_credit_145 rfl rfl ?_
                  refine V_iastN 148 (40 * t + nc) dX8_credit_147 rfl rfl (by decide) e4 (show _ < 240 by omega) (by decide) ?_
                  refine V_aload_n 149 dX8_credit_148 rfl rfl ?_
                  refine V_getR 152 8 20 fl_X8_143 dX8_credit_149 rfl rfl (by decide) (Or.inr ⟨_, rfl⟩) (by decide) (sr_20 hS) ?_
                  refine V_iload_n 153 dX8_credit_152 rfl rfl ?_
                  refine V_dup2 154 dX8_credit_153 rfl ?_
                  refine V_ialdV 155 (_) dX8_credit_154 rfl rfl (by decide) rfl (show _ < 6 by omega) (by decide) hc ?_
                  refine V_iconst (v := 1) 156 dX8_credit_155 rfl (by decide) ?_
                  refine V_iadd 157 dX8_credit_156 rfl ?_
                  rw [nI_1]
                  refine V_iastN 158 (_) dX8_credit_157 rfl rfl (by decide) rfl (show _ < 6 by omega) (by decide) ?_
                  refine V_aload_n 159 dX8_credit_158 rfl rfl ?_
                  refine V_getR 162 8 20 fl_X8_143 dX8_credit_159 rfl rfl (by decide) (Or.inr ⟨_, rfl⟩) (by decide) (sr_20 hS) ?_
                  refine V_iload_n 163 dX8_credit_162 rfl rfl ?_
                  refine V_ialdV 164 (_) dX8_credit_163 rfl rfl (by decide) rfl (show _ < 6 by omega) (by decide) (show _ = nI (nc + 1) by simp [qii]) ?_
                  refine V_iconst (v := 1) 165 dX8_credit_164 rfl (by decide) ?_
                  refine V_isub 166 dX8_credit_165 rfl ?_
                  rw [nI_pred]
                  refine V_iret dX8_credit_166 rfl rfl ⟨_, rfl, ?_⟩ (by first | exact Nat.le_refl _ | decide | omega) (by first | exact Nat.le_refl _ | decide | omega)
                  exact ⟨rfl, rfl⟩
                · skip
                  exact absurd (show nI nc = nI 40 from c_107) (fun q => by have := (nI_eq (by omega) (by omega)).mp q; omega)
            · skip
              grind
theorem ct_X8_credit_full {t nc : Nat} {m : Int64} {p : Int32} (hS : SHR h) (ht : t < 6) (hc : qg_i h 50 0 t = nI nc) (hnc : nc ≤ 40) (hm : 1 ≤ m ∧ m ≤ 1000000000000) (hp : 0 ≤ p ∧ p < 100) (hpc : qg_i h 53 0 t ≤ p) (hs : sm_i (m_some h t) nc = 10 ∨ nc = 40) : qM yX8_credit cX8_credit 7 ((some .int)) 1 23 0 0 [.inr (.inr (some (33, 0))), .inl (nI t), .inr (.inl m), .inl p] h (pI fun x h' => x = -3 ∧ h' = h) := by
  refine qM.of (plainFor_of_name (by decide)) (Nat.le_of_ble_eq_true rfl) ?_
  refine V_iload_n 1 dX8_credit_0 rfl rfl ?_
  refine V_cS1i 4 (ct_isTen_ok ht) cs_X8_7 dX8_credit_1 rfl ⟨Nat.le_of_ble_eq_true rfl, Nat.le_of_ble_eq_true rfl⟩ (Nat.le_of_ble_eq_true rfl) ⟨Nat.le_of_ble_eq_true rfl, Nat.le_of_ble_eq_true rfl⟩ (fun x h' hx hle => ?_)
  obtain ⟨rfl, rfl⟩ := hx
  refine V_if_eq 44 7 dX8_credit_4 rfl rfl (fun c_4 => ?_) (fun c_4 => ?_)
  · skip
    exact absurd c_4 (by decide)
  · skip
    refine V_lload_n 8 dX8_credit_7 rfl rfl ?_
    refine V_lconst (v := 1) 9 dX8_credit_8 rfl (by decide) ?_
    refine V_lcmp 10 dX8_credit_9 rfl ?_
    refine V_if_lt 44 13 dX8_credit_10 rfl rfl (fun c_10 => ?_) (fun c_10 => ?_)
    · (rw [lg_lt] at c_10)
      grind
    · (rw [lg_lt] at c_10)
      refine V_lload_n 14 dX8_credit_13 rfl rfl ?_
      refine V_ldc2 (v := 1000000000000) 17 dX8_credit_14 rfl wc_X8_185 ?_
      refine V_lcmp 18 dX8_credit_17 rfl ?_
      refine V_if_gt 44 21 dX8_credit_18 rfl rfl (fun c_18 => ?_) (fun c_18 => ?_)
      · (rw [lg_gt] at c_18)
        grind
      · (rw [lg_gt] at c_18)
        refine V_iload 23 dX8_credit_21 rfl rfl ?_
        refine V_if_lt 44 26 dX8_credit_23 rfl rfl (fun c_23 => ?_) (fun c_23 => ?_)
        · skip
          grind
        · skip
          refine V_iload 28 dX8_credit_26 rfl rfl ?_
          refine V_bipush (v := 100) 30 dX8_credit_28 rfl (by decide) ?_
          refine V_icmp_ge 44 33 dX8_credit_30 rfl rfl (fun c_30 => ?_) (fun c_30 => ?_)
          · skip
            grind
          · skip
            refine V_iload 35 dX8_credit_33 rfl rfl ?_
            refine V_aload_n 36 dX8_credit_35 rfl rfl ?_
            refine V_getR 39 8 23 fl_X8_49 dX8_credit_36 rfl rfl (by decide) (Or.inr ⟨_, rfl⟩) (by decide) (sr_23 hS) ?_
            refine V_iload_n 40 dX8_credit_39 rfl rfl ?_
            refine V_ialdN 41 (_) dX8_credit_40 rfl rfl (by decide) rfl (show _ < 6 by omega) (by decide) ?_
            refine V_icmp_ge 47 44 dX8_credit_41 rfl rfl (fun c_41 => ?_) (fun c_41 => ?_)
            · skip
              refine V_iconst (v := 0) 48 dX8_credit_47 rfl (by decide) ?_
              refine V_istore 50 dX8_credit_48 rfl (by decide) ?_
              refine V_iconst (v := 0) 51 dX8_credit_50 rfl (by decide) ?_
              refine V_istore 53 dX8_credit_51 rfl (by decide) ?_
              refine V_at (lp_X8_credit (m := m) (p := p) hS ht hc (by omega) ?_ nc 0 (by omega)) ⟨rfl, rfl, rfl, rfl, rfl, rfl, trivial⟩
              refine V_iload 94 dX8_credit_92 rfl rfl ?_
              refine V_bipush (v := 10) 96 dX8_credit_94 rfl (by decide) ?_
              refine V_icmp_eq 110 99 dX8_credit_96 rfl rfl (fun c_96 => ?_) (fun c_96 => ?_)
              · skip
                refine V_bipush (v := (-3)) 112 dX8_credit_110 rfl (by decide) ?_
                refine V_iret dX8_credit_112 rfl rfl ⟨_, rfl, ?_⟩ (by first | exact Nat.le_refl _ | decide | omega) (by first | exact Nat.le_refl _ | decide | omega)
                exact ⟨rfl, rfl⟩
              · skip
                refine V_aload_n 100 dX8_credit_99 rfl rfl ?_
                refine V_getR 103 8 20 fl_X8_143 dX8_credit_100 rfl rfl (by decide) (Or.inr ⟨_, rfl⟩) (by decide) (sr_20 hS) ?_
                refine V_iload_n 104 dX8_credit_103 rfl rfl ?_
                refine V_ialdV 105 (_) dX8_credit_104 rfl rfl (by decide) rfl (show _ < 6 by omega) (by decide) hc ?_
                refine V_bipush (v := 40) 107 dX8_credit_105 rfl (by decide) ?_
                refine V_icmp_ne 113 110 dX8_credit_107 rfl rfl (fun c_107 => ?_) (fun c_107 => ?_)
                · skip
                  exact absurd (by rcases hs with q | q; exact absurd q c_96; rw [q]; rfl) c_107
                · skip
                  refine V_bipush (v := (-3)) 112 dX8_credit_110 rfl (by decide) ?_
                  refine V_iret dX8_credit_112 rfl rfl ⟨_, rfl, ?_⟩ (by first | exact Nat.le_refl _ | decide | omega) (by first | exact Nat.le_refl _ | decide | omega)
                  exact ⟨rfl, rfl⟩
            · skip
              grind
theorem ct_X8_credit_bad {t p : Int32} {m : Int64} (hS : SHR h) (hbad : ¬ ((0 ≤ t ∧ t < 6) ∧ (1 ≤ m ∧ m ≤ 1000000000000) ∧ (0 ≤ p ∧ p < 100) ∧ ∃ t' : Nat, t' < 6 ∧ t = nI t' ∧ qg_i h 53 0 t' ≤ p)) : qM yX8_credit cX8_credit 7 ((some .int)) 1 23 0 0 [.inr (.inr (some (33, 0))), .inl t, .inr (.inl m), .inl p] h (pI fun x h' => x = -2 ∧ h' = h) := by
  refine qM.of (plainFor_of_name (by decide)) (Nat.le_of_ble_eq_true rfl) ?_
  refine V_iload_n 1 dX8_credit_0 rfl rfl ?_
  refine V_cS1i 4 (ct_X8_isTenant _ _) cs_X8_7 dX8_credit_1 rfl ⟨Nat.le_of_ble_eq_true rfl, Nat.le_of_ble_eq_true rfl⟩ (Nat.le_of_ble_eq_true rfl) ⟨Nat.le_of_ble_eq_true rfl, Nat.le_of_ble_eq_true rfl⟩ (fun x h' hx hle => ?_)
  obtain ⟨rfl, rfl⟩ := hx
  refine V_if_eq 44 7 dX8_credit_4 rfl rfl (fun c_4 => ?_) (fun c_4 => ?_)
  · skip
    refine V_bipush (v := (-2)) 46 dX8_credit_44 rfl (by decide) ?_
    refine V_iret dX8_credit_46 rfl rfl ⟨_, rfl, ?_⟩ (by first | exact Nat.le_refl _ | decide | omega) (by first | exact Nat.le_refl _ | decide | omega)
    exact ⟨rfl, rfl⟩
  · skip
    refine V_lload_n 8 dX8_credit_7 rfl rfl ?_
    refine V_lconst (v := 1) 9 dX8_credit_8 rfl (by decide) ?_
    refine V_lcmp 10 dX8_credit_9 rfl ?_
    refine V_if_lt 44 13 dX8_credit_10 rfl rfl (fun c_10 => ?_) (fun c_10 => ?_)
    · (rw [lg_lt] at c_10)
      refine V_bipush (v := (-2)) 46 dX8_credit_44 rfl (by decide) ?_
      refine V_iret dX8_credit_46 rfl rfl ⟨_, rfl, ?_⟩ (by first | exact Nat.le_refl _ | decide | omega) (by first | exact Nat.le_refl _ | decide | omega)
      exact ⟨rfl, rfl⟩
    · (rw [lg_lt] at c_10)
      refine V_lload_n 14 dX8_credit_13 rfl rfl ?_
      refine V_ldc2 (v := 1000000000000) 17 dX8_credit_14 rfl wc_X8_185 ?_
      refine V_lcmp 18 dX8_credit_17 rfl ?_
      refine V_if_gt 44 21 dX8_credit_18 rfl rfl (fun c_18 => ?_) (fun c_18 => ?_)
      · (rw [lg_gt] at c_18)
        refine V_bipush (v := (-2)) 46 dX8_credit_44 rfl (by decide) ?_
        refine V_iret dX8_credit_46 rfl rfl ⟨_, rfl, ?_⟩ (by first | exact Nat.le_refl _ | decide | omega) (by first | exact Nat.le_refl _ | decide | omega)
        exact ⟨rfl, rfl⟩
      · (rw [lg_gt] at c_18)
        refine V_iload 23 dX8_credit_21 rfl rfl ?_
        refine V_if_lt 44 26 dX8_credit_23 rfl rfl (fun c_23 => ?_) (fun c_23 => ?_)
        · skip
          refine V_bipush (v := (-2)) 46 dX8_credit_44 rfl (by decide) ?_
          refine V_iret dX8_credit_46 rfl rfl ⟨_, rfl, ?_⟩ (by first | exact Nat.le_refl _ | decide | omega) (by first | exact Nat.le_refl _ | decide | omega)
          exact ⟨rfl, rfl⟩
        · skip
          refine V_iload 28 dX8_credit_26 rfl rfl ?_
          refine V_bipush (v := 100) 30 dX8_credit_28 rfl (by decide) ?_
          refine V_icmp_ge 44 33 dX8_credit_30 rfl rfl (fun c_30 => ?_) (fun c_30 => ?_)
          · skip
            refine V_bipush (v := (-2)) 46 dX8_credit_44 rfl (by decide) ?_
            refine V_iret dX8_credit_46 rfl rfl ⟨_, rfl, ?_⟩ (by first | exact Nat.le_refl _ | decide | omega) (by first | exact Nat.le_refl _ | decide | omega)
            exact ⟨rfl, rfl⟩
          · skip
            obtain ⟨b, hb, rfl⟩ := res_of (n := 6) (by decide) c_4
            refine V_iload 35 dX8_credit_33 rfl rfl ?_
            refine V_aload_n 36 dX8_credit_35 rfl rfl ?_
            refine V_getR 39 8 23 fl_X8_49 dX8_credit_36 rfl rfl (by decide) (Or.inr ⟨_, rfl⟩) (by decide) (sr_23 hS) ?_
            refine V_iload_n 40 dX8_credit_39 rfl rfl ?_
            refine V_ialdN 41 (_) dX8_credit_40 rfl rfl (by decide) rfl (show _ < 6 by omega) (by decide) ?_
            refine V_icmp_ge 47 44 dX8_credit_41 rfl rfl (fun c_41 => ?_) (fun c_41 => ?_)
            · skip
              exact absurd ⟨⟨nI_pos' (by omega), nI_lt (b := 6) hb (by omega)⟩, by grind, by grind, b, hb, rfl, by grind⟩ hbad
            · skip
              refine V_bipush (v := (-2)) 46 dX8_credit_44 rfl (by decide) ?_
              refine V_iret dX8_credit_46 rfl rfl ⟨_, rfl, ?_⟩ (by first | exact Nat.le_refl _ | decide | omega) (by first | exact Nat.le_refl _ | decide | omega)
              exact ⟨rfl, rfl⟩
end RI
