/-! The reference: what is used, held, free; limits; holds -/
section RG
variable {h : qH}
theorem ct_isAcc_ok {na a : Nat} (e : qg_i h 33 0 1 = nI na) (hna : na ≤ 24) (ha : a < na) : qM yX8_isAccount cX8_isAccount 2 ((some .boolean)) 0 0 0 0 [.inr (.inr (some (33, 0))), .inl (nI a)] h (pI fun x h' => x = 1 ∧ h' = h) := by
  refine (ct_X8_isAccount h (nI a)).weak ?_
  rintro v h' ⟨x, rfl, rfl, rfl⟩
  refine ⟨_, rfl, if_pos ⟨nI_pos' (by omega), ?_⟩, rfl⟩
  rw [e]
  exact nI_lt ha (by omega)
theorem ct_isRes_ok {r : Nat} (hr : r < 4) : qM yX8_isResource cX8_isResource 1 ((some .boolean)) 0 0 0 0 [.inl (nI r)] h (pI fun x h' => x = 1 ∧ h' = h) := by
  refine (ct_X8_isResource h (nI r)).weak ?_
  rintro v h' ⟨x, rfl, rfl, rfl⟩
  exact ⟨_, rfl, if_pos ⟨nI_pos' (by omega), nI_lt (b := 4) hr (by omega)⟩, rfl⟩
theorem ct_isTen_ok {r : Nat} (hr : r < 6) : qM yX8_isTenant cX8_isTenant 1 ((some .boolean)) 0 0 0 0 [.inl (nI r)] h (pI fun x h' => x = 1 ∧ h' = h) := by
  refine (ct_X8_isTenant h (nI r)).weak ?_
  rintro v h' ⟨x, rfl, rfl, rfl⟩
  exact ⟨_, rfl, if_pos ⟨nI_pos' (by omega), nI_lt (b := 6) hr (by omega)⟩, rfl⟩
/-- what account a has used of r in p -/
def m_used (h : qH) (na b r p : Nat) : Int64 := sm_l (fun a => if ly (qg_i h 35 0) a b then qg_l h 37 0 ((4 * a + r) * 100 + p) else 0) na
theorem lp_X8_usedOf {na b r p : Nat} (hS : SHR h) (e : qg_i h 33 0 1 = nI na) (hna : na ≤ 24) (hp : WI (qg_i h 35 0) na) (hb : b < na) (hr : r < 4) (hpp : p < 100) {n0 : Nat → Nat} {Post : Option qV → qH → Prop} (hP : Post (some (.inr (.inl (m_used h na b r p)))) h) :
    ∀ (m i : Nat), i + m = na → Vw yX8_usedOf cX8_usedOf 7 ((some .long)) (qrm 1 23 0 0) 0 0 n0 Post 6 [(0, .inr (.inr (some (33, 0)))), (1, .inl (nI b)), (2, .inl (nI r)), (3, .inl (nI p)), (4, .inr (.inl (m_used h i b r p))), (6, .inl (nI i))] [] h 0 0 := by
  intro m
  induction m with
  | zero =>
    intro i hi
    have hi : i = na := by omega
    subst hi
    refine V_iload 8 dX8_usedOf_6 rfl rfl ?_
    refine V_aload_n 9 dX8_usedOf_8 rfl rfl ?_
    refine V_geti 12 8 1 fl_X8_3 dX8_usedOf_9 rfl rfl (by decide) rfl (by decide) ?_
    rw [e]
    refine V_icmp_ge 52 15 dX8_usedOf_12 rfl rfl (fun c_12 => ?_) (fun c_12 => ?_)
    · skip
      refine V_lload 54 dX8_usedOf_52 rfl rfl ?_
      refine V_lret dX8_usedOf_54 rfl ?_ (by first | exact Nat.le_refl _ | decide | omega) (by first | exact Nat.le_refl _ | decide | omega)
      exact hP
    · skip
      exact absurd (nI_le (Nat.le_refl _) (by omega)) c_12
  | succ m ih =>
    intro i hi
    refine V_iload 8 dX8_usedOf_6 rfl rfl ?_
    refine V_aload_n 9 dX8_usedOf_8 rfl rfl ?_
    refine V_geti 12 8 1 fl_X8_3 dX8_usedOf_9 rfl rfl (by decide) rfl (by decide) ?_
    rw [e]
    refine V_icmp_ge 52 15 dX8_usedOf_12 rfl rfl (fun c_12 => ?_) (fun c_12 => ?_)
    · skip
      exact absurd c_12 (nI_ge (by omega) (by omega))
    · skip
      refine V_lload 17 dX8_usedOf_15 rfl rfl ?_
      refine V_aload_n 18 dX8_usedOf_17 rfl rfl ?_
      refine V_iload 20 dX8_usedOf_18 rfl rfl ?_
      refine V_iload_n 21 dX8_usedOf_20 rfl rfl ?_
      refine V_cV2i 24 (ct_X8_lies hS hna hp (show i < na by omega) hb) cs_X8_77 rfl rfl (by decide) dX8_usedOf_21 rfl ⟨Nat.le_of_ble_eq_true rfl, Nat.le_of_ble_eq_true rfl⟩ (Nat.le_of_ble_eq_true rfl) ⟨Nat.le_of_ble_eq_true rfl, Nat.le_of_ble_eq_true rfl⟩ (fun x h' hx hle => ?_)
      obtain ⟨rfl, rfl⟩ := hx
      refine V_if_eq 42 27 dX8_usedOf_24 rfl rfl (fun c_24 => ?_) (fun c_24 => ?_)
      · skip
        refine V_lconst (v := 0) 43 dX8_usedOf_42 rfl (by decide) ?_
        refine V_ladd 44 dX8_usedOf_43 rfl ?_
        refine V_lstore 46 dX8_usedOf_44 rfl (by decide) ?_
        refine V_iincN 49 dX8_usedOf_46 rfl rfl (by decide) ?_
        refine V_goto 6 dX8_usedOf_49 rfl ?_
        refine V_at (ih (i + 1) (by omega)) ⟨rfl, rfl, rfl, rfl, ?_, rfl, trivial⟩
        show some _ = some _
        simp only [m_used, sm_l]
        grind
      · skip
        refine V_aload_n 28 dX8_usedOf_27 rfl rfl ?_
        refine V_getR 31 8 5 fl_X8_56 dX8_usedOf_28 rfl rfl (by decide) (Or.inr ⟨_, rfl⟩) (by decide) (sr_5 hS) ?_
        refine V_iload 33 dX8_usedOf_31 rfl rfl ?_
        refine V_iload_n 34 dX8_usedOf_33 rfl rfl ?_
        refine V_iload_n 35 dX8_usedOf_34 rfl rfl ?_
        refine V_cS3i 38 (ct_X8_cell _ _ _ _) cs_X8_59 dX8_usedOf_35 rfl ⟨Nat.le_of_ble_eq_true rfl, Nat.le_of_ble_eq_true rfl⟩ (Nat.le_of_ble_eq_true rfl) ⟨Nat.le_of_ble_eq_true rfl, Nat.le_of_ble_eq_true rfl⟩ (fun x h' hx hle => ?_)
        obtain ⟨rfl, rfl⟩ := hx
        refine V_laldN 39 (_) dX8_usedOf_38 rfl rfl (by decide) rfl (show _ < 9600 by omega) (by decide) ?_
        refine V_goto 43 dX8_usedOf_39 rfl ?_
        refine V_ladd 44 dX8_usedOf_43 rfl ?_
        refine V_lstore 46 dX8_usedOf_44 rfl (by decide) ?_
        refine V_iincN 49 dX8_usedOf_46 rfl rfl (by decide) ?_
        refine V_goto 6 dX8_usedOf_49 rfl ?_
        refine V_at (ih (i + 1) (by omega)) ⟨rfl, rfl, rfl, rfl, ?_, rfl, trivial⟩
        show some _ = some _
        simp only [m_used, sm_l]
        grind
theorem ct_X8_usedOf {na b r p : Nat} (hS : SHR h) (e : qg_i h 33 0 1 = nI na) (hna : na ≤ 24) (hp : WI (qg_i h 35 0) na) (hb : b < na) (hr : r < 4) (hpp : p < 100) : qM yX8_usedOf cX8_usedOf 7 ((some .long)) 1 23 0 0 [.inr (.inr (some (33, 0))), .inl (nI b), .inl (nI r), .inl (nI p)] h (pL fun x h' => x = m_used h na b r p ∧ h' = h) := by
  refine qM.of (plainFor_of_name (by decide)) (Nat.le_of_ble_eq_true rfl) ?_
  refine V_lconst (v := 0) 1 dX8_usedOf_0 rfl (by decide) ?_
  refine V_lstore 3 dX8_usedOf_1 rfl (by decide) ?_
  refine V_iconst (v := 0) 4 dX8_usedOf_3 rfl (by decide) ?_
  refine V_istore 6 dX8_usedOf_4 rfl (by decide) ?_
  exact V_at (lp_X8_usedOf hS e hna hp hb hr hpp ⟨_, rfl, rfl, rfl⟩ na 0 (by omega)) ⟨rfl, rfl, rfl, rfl, rfl, rfl, trivial⟩
/-- the accounts of the holds -/
def WH (h : qH) (na nh : Nat) : Prop := ∀ j, j < nh → ∃ a, a < na ∧ qg_i h 41 0 j = nI a
def m_held1 (h : qH) (b : Nat) (r : Int32) (j : Nat) : Int32 := if m_open h j && qg_i h 42 0 j = r && ly (qg_i h 35 0) (qg_i h 41 0 j).toNatClampNeg b then qg_i h 43 0 j else 0
def m_held (h : qH) (nh b : Nat) (r : Int32) : Int32 := sm_i (m_held1 h b r) nh
theorem lp_X8_heldOf {na nh b : Nat} {r : Int32} (hS : SHR h) (hna : na ≤ 24) (hp : WI (qg_i h 35 0) na) (e : qg_i h 33 0 10 = nI nh) (hnh : nh ≤ 200) (hH : WH h na nh) (hb : b < na) {n0 : Nat → Nat} {Post : Option qV → qH → Prop} (hP : Post (some (.inl (m_held h nh b r))) h) :
    ∀ (m i : Nat), i + m = nh → Vw yX8_heldOf cX8_heldOf 5 ((some .int)) (qrm 1 23 0 0) 0 0 n0 Post 5 [(0, .inr (.inr (some (33, 0)))), (1, .inl (nI b)), (2, .inl r), (3, .inl (m_held h i b r)), (4, .inl (nI i))] [] h 0 0 := by
  intro m
  induction m with
  | zero =>
    intro i hi
    have hi : i = nh := by omega
    subst hi
    refine V_iload 7 dX8_heldOf_5 rfl rfl ?_
    refine V_aload_n 8 dX8_heldOf_7 rfl rfl ?_
    refine V_geti 11 8 10 fl_X8_81 dX8_heldOf_8 rfl rfl (by decide) rfl (by decide) ?_
    rw [e]
    refine V_icmp_ge 69 14 dX8_heldOf_11 rfl rfl (fun c_11 => ?_) (fun c_11 => ?_)
    · skip
      refine V_iload_n 70 dX8_heldOf_69 rfl rfl ?_
      refine V_iret dX8_heldOf_70 rfl rfl ?_ (by first | exact Nat.le_refl _ | decide | omega) (by first | exact Nat.le_refl _ | decide | omega)
      exact hP
    · skip
      exact absurd (nI_le (Nat.le_refl _) (by omega)) c_11
  | succ m ih =>
    intro i hi
    obtain ⟨a, ha, ea⟩ := hH i (by omega)
    have ecl : (qg_i h 41 0 i).toNatClampNeg = a := by rw [ea, nI_clamp (by omega)]
    refine V_iload 7 dX8_heldOf_5 rfl rfl ?_
    refine V_aload_n 8 dX8_heldOf_7 rfl rfl ?_
    refine V_geti 11 8 10 fl_X8_81 dX8_heldOf_8 rfl rfl (by decide) rfl (by decide) ?_
    rw [e]
    refine V_icmp_ge 69 14 dX8_heldOf_11 rfl rfl (fun c_11 => ?_) (fun c_11 => ?_)
    · skip
      exact absurd c_11 (nI_ge (by omega) (by omega))
    · skip
      refine V_iload_n 15 dX8_heldOf_14 rfl rfl ?_
      refine V_aload_n 16 dX8_heldOf_15 rfl rfl ?_
      refine V_iload 18 dX8_heldOf_16 rfl rfl ?_
      refine V_cV1i 21 (ct_X8_isOpen hS e hnh (by omega)) cs_X8_91 rfl rfl (by decide) dX8_heldOf_18 rfl ⟨Nat.le_of_ble_eq_true rfl, Nat.le_of_ble_eq_true rfl⟩ (Nat.le_of_ble_eq_true rfl) ⟨Nat.le_of_ble_eq_true rfl, Nat.le_of_ble_eq_true rfl⟩ (fun x h' hx hle => ?_)
      obtain ⟨rfl, rfl⟩ := hx
      refine V_if_eq 60 24 dX8_heldOf_21 rfl rfl (fun c_21 => ?_) (fun c_21 => ?_)
      · skip
        refine V_iconst (v := 0) 61 dX8_heldOf_60 rfl (by decide) ?_
        refine V_iadd 62 dX8_heldOf_61 rfl ?_
        refine V_istore_n 63 dX8_heldOf_62 rfl (by decide) ?_
        refine V_iincN 66 dX8_heldOf_63 rfl rfl (by decide) ?_
        refine V_goto 5 dX8_heldOf_66 rfl ?_
        refine V_at (ih (i + 1) (by omega)) ⟨rfl, rfl, rfl, ?_, rfl, trivial⟩
        show some _ = some _
        simp only [m_held, sm_i, m_held1, ecl]
        grind
      · skip
        refine V_aload_n 25 dX8_heldOf_24 rfl rfl ?_
        refine V_getR 28 8 12 fl_X8_98 dX8_heldOf_25 rfl rfl (by decide) (Or.inr ⟨_, rfl⟩) (by decide) (sr_12 hS) ?_
        refine V_iload 30 dX8_heldOf_28 rfl rfl ?_
        refine V_ialdN 31 (_) dX8_heldOf_30 rfl rfl (by decide) rfl (show _ < 200 by omega) (by decide) ?_
        refine V_iload_n 32 dX8_heldOf_31 rfl rfl ?_
        refine V_icmp_ne 60 35 dX8_heldOf_32 rfl rfl (fun c_32 => ?_) (fun c_32 => ?_)
        · skip
          refine V_iconst (v := 0) 61 dX8_heldOf_60 rfl (by decide) ?_
          refine V_iadd 62 dX8_heldOf_61 rfl ?_
          refine V_istore_n 63 dX8_heldOf_62 rfl (by decide) ?_
          refine V_iincN 66 dX8_heldOf_63 rfl rfl (by decide) ?_
          refine V_goto 5 dX8_heldOf_66 rfl ?_
          refine V_at (ih (i + 1) (by omega)) ⟨rfl, rfl, rfl, ?_, rfl, trivial⟩
          show some _ = some _
          simp only [m_held, sm_i, m_held1, ecl]
          grind
        · skip
          refine V_aload_n 36 dX8_heldOf_35 rfl rfl ?_
          refine V_aload_n 37 dX8_heldOf_36 rfl rfl ?_
          refine V_getR 40 8 11 fl_X8_101 dX8_heldOf_37 rfl rfl (by decide) (Or.inr ⟨_, rfl⟩) (by decide) (sr_11 hS) ?_
          refine V_iload 42 dX8_heldOf_40 rfl rfl ?_
          refine V_ialdN 43 (_) dX8_heldOf_42 rfl rfl (by decide) rfl (show _ < 200 by omega) (by decide) ?_
          rw [ea]
          refine V_iload_n 44 dX8_heldOf_43 rfl rfl ?_
          refine V_cV2i 47 (ct_X8_lies hS hna hp ha hb) cs_X8_77 rfl rfl (by decide) dX8_heldOf_44 rfl ⟨Nat.le_of_ble_eq_true rfl, Nat.le_of_ble_eq_true rfl⟩ (Nat.le_of_ble_eq_true rfl) ⟨Nat.le_of_ble_eq_true rfl, Nat.le_of_ble_eq_true rfl⟩ (fun x h' hx hle => ?_)
          obtain ⟨rfl, rfl⟩ := hx
          refine V_if_eq 60 50 dX8_heldOf_47 rfl rfl (fun c_47 => ?_) (fun c_47 => ?_)
          · skip
            refine V_iconst (v := 0) 61 dX8_heldOf_60 rfl (by decide) ?_
            refine V_iadd 62 dX8_heldOf_61 rfl ?_
            refine V_istore_n 63 dX8_heldOf_62 rfl (by decide) ?_
            refine V_iincN 66 dX8_heldOf_63 rfl rfl (by decide) ?_
            refine V_goto 5 dX8_heldOf_66 rfl ?_
            refine V_at (ih (i + 1) (by omega)) ⟨rfl, rfl, rfl, ?_, rfl, trivial⟩
            show some _ = some _
            simp only [m_held, sm_i, m_held1, ecl]
            grind
          · skip
            refine V_aload_n 51 dX8_heldOf_50 rfl rfl ?_
            refine V_getR 54 8 13 fl_X8_104 dX8_heldOf_51 rfl rfl (by decide) (Or.inr ⟨_, rfl⟩) (by decide) (sr_13 hS) ?_
            refine V_iload 56 dX8_heldOf_54 rfl rfl ?_
            refine V_ialdN 57 (_) dX8_heldOf_56 rfl rfl (by decide) rfl (show _ < 200 by omega) (by decide) ?_
            refine V_goto 61 dX8_heldOf_57 rfl ?_
            refine V_iadd 62 dX8_heldOf_61 rfl ?_
            refine V_istore_n 63 dX8_heldOf_62 rfl (by decide) ?_
            refine V_iincN 66 dX8_heldOf_63 rfl rfl (by decide) ?_
            refine V_goto 5 dX8_heldOf_66 rfl ?_
            refine V_at (ih (i + 1) (by omega)) ⟨rfl, rfl, rfl, ?_, rfl, trivial⟩
            show some _ = some _
            simp only [m_held, sm_i, m_held1, ecl]
            grind
theorem ct_X8_heldOf {na nh b : Nat} {r : Int32} (hS : SHR h) (hna : na ≤ 24) (hp : WI (qg_i h 35 0) na) (e : qg_i h 33 0 10 = nI nh) (hnh : nh ≤ 200) (hH : WH h na nh) (hb : b < na) : qM yX8_heldOf cX8_heldOf 5 ((some .int)) 1 23 0 0 [.inr (.inr (some (33, 0))), .inl (nI b), .inl r] h (pI fun x h' => x = m_held h nh b r ∧ h' = h) := by
  refine qM.of (plainFor_of_name (by decide)) (Nat.le_of_ble_eq_true rfl) ?_
  refine V_iconst (v := 0) 1 dX8_heldOf_0 rfl (by decide) ?_
  refine V_istore_n 2 dX8_heldOf_1 rfl (by decide) ?_
  refine V_iconst (v := 0) 3 dX8_heldOf_2 rfl (by decide) ?_
  refine V_istore 5 dX8_heldOf_3 rfl (by decide) ?_
  exact V_at (lp_X8_heldOf hS hna hp e hnh hH hb ⟨_, rfl, rfl, rfl⟩ nh 0 (by omega)) ⟨rfl, rfl, rfl, rfl, rfl, trivial⟩
/-- what is free for account a: the least along the chain -/
def m_room1 (h : qH) (na nh p r a : Nat) (x : Int64) : Int64 := if qg_i h 36 0 (4 * a + r) = -1 then x else (let z := (qg_i h 36 0 (4 * a + r)).toInt64 - m_used h na a r p - (m_held h nh a (nI r)).toInt64; if z < x then z else x)
def m_room_n (h : qH) (na nh p r : Nat) : Nat → Nat → Int64 → Int64
  | 0, a, x => m_room1 h na nh p r a x
  | n + 1, a, x => if qg_i h 35 0 a = -1 then m_room1 h na nh p r a x else m_room_n h na nh p r n (qg_i h 35 0 a).toNatClampNeg (m_room1 h na nh p r a x)
def m_room (h : qH) (na nh p r a : Nat) : Int64 := m_room_n h na nh p r a a 1000000
theorem m_room_fuel {na nh p r N : Nat} (hN : N ≤ 2 ^ 31) (hp : WI (qg_i h 35 0) N) : ∀ (n m a : Nat), a < N → a ≤ n → a ≤ m → ∀ x, m_room_n h na nh p r n a x = m_room_n h na nh p r m a x := by
  intro n
  induction n with
  | zero =>
    intro m a haN h1 h2 x
    have : a = 0 := by omega
    subst this
    cases m with
    | zero => rfl
    | succ m =>
      have e : qg_i h 35 0 0 = -1 := by
        rcases hp 0 haN with e | ⟨c, hc, -⟩
        · exact e
        · omega
      simp [m_room_n, e]
  | succ n ih =>
    intro m a haN h1 h2 x
    cases m with
    | zero =>
      have : a = 0 := by omega
      subst this
      have e : qg_i h 35 0 0 = -1 := by
        rcases hp 0 haN with e | ⟨c, hc, -⟩
        · exact e
        · omega
      simp [m_room_n, e]
    | succ m =>
      rcases hp a haN with e | ⟨c, hc, e⟩
      · simp [m_room_n, e]
      · simp only [m_room_n, e, nI_clamp (show c < 2 ^ 31 by omega)]
        rw [ih m c (by omega) (by omega) (by omega)]
theorem m_room_none {na nh p r a : Nat} {x : Int64} (e : qg_i h 35 0 a = -1) : m_room_n h na nh p r a a x = m_room1 h na nh p r a x := by
  cases a <;> simp [m_room_n, e]
theorem m_room_some {na nh p r a c N : Nat} (hN : N ≤ 2 ^ 31) (hp : WI (qg_i h 35 0) N) {x : Int64} (ha : a < N) (hc : c < a) (e : qg_i h 35 0 a = nI c) : m_room_n h na nh p r a a x = m_room_n h na nh p r c c (m_room1 h na nh p r a x) := by
  cases a with
  | zero => omega
  | succ a =>
    simp only [m_room_n, e, nI_clamp (show c < 2 ^ 31 by omega), if_neg (nI_ne_m1 (show c < 2 ^ 31 by omega))]
    exact m_room_fuel hN hp a c c (by omega) (by omega) (Nat.le_refl _) _
theorem lp_X8_roomOf0 {n0 : Nat → Nat} {Post : Option qV → qH → Prop} {x : Int64} {L : List (Nat × qV)} (hP : Post (some (.inr (.inl x))) h) (h3 : qlk L 3 = some (.inr (.inl x))) (h5 : qlk L 5 = some (.inl (-1))) : Vw yX8_roomOf cX8_roomOf 6 ((some .long)) (qrm 2 49 0 0) 0 0 n0 Post 7 L [] h 0 0 := by
  refine V_iload 9 dX8_roomOf_7 rfl h5 ?_
  refine V_iconst (v := -1) 10 dX8_roomOf_9 rfl (by decide) ?_
  refine V_icmp_eq 82 13 dX8_roomOf_10 rfl rfl (fun c_10 => ?_) (fun c_10 => absurd rfl c_10)
  refine V_lload_n 83 dX8_roomOf_82 rfl h3 ?_
  exact V_lret dX8_roomOf_83 rfl hP (Nat.le_refl _) (Nat.le_refl _)
theorem lp_X8_roomOf {na nh r p : Nat} (hS : SHR h) (ea : qg_i h 33 0 1 = nI na) (hna : na ≤ 24) (hp : WI (qg_i h 35 0) na) (e : qg_i h 33 0 10 = nI nh) (hnh : nh ≤ 200) (hH : WH h na nh) (hr : r < 4) (hpp : p < 100) (enow : qg_i h 33 0 0 / 1000 = nI p) {n0 : Nat → Nat} {Post : Option qV → qH → Prop} :
    ∀ (a : Nat), a < na → ∀ x, Post (some (.inr (.inl (m_room_n h na nh p r a a x)))) h → Vw yX8_roomOf cX8_roomOf 6 ((some .long)) (qrm 2 49 0 0) 0 0 n0 Post 7 [(0, .inr (.inr (some (33, 0)))), (2, .inl (nI r)), (3, .inr (.inl x)), (5, .inl (nI a))] [] h 0 0 := by
  intro a
  induction a using Nat.strongRecOn with
  | _ a ih =>
    intro ha x hP
    have e4 : (4 : Int32) * nI a + nI r = nI (4 * a + r) := by rw [show (4 : Int32) = nI 4 from rfl, pk_mul, nI_add]
    have fin : ∀ z, z = m_room1 h na nh p r a x → Vw yX8_roomOf cX8_roomOf 6 ((some .long)) (qrm 2 49 0 0) 0 0 n0 Post 70 [(0, .inr (.inr (some (33, 0)))), (2, .inl (nI r)), (3, .inr (.inl z)), (5, .inl (nI a))] [] h 0 0 := by
      intro z hz
      subst hz
      refine V_aload_n 71 dX8_roomOf_70 rfl rfl ?_
      refine V_getR 74 8 3 fl_X8_18 dX8_roomOf_71 rfl rfl (by decide) (Or.inr ⟨_, rfl⟩) (by decide) (sr_3 hS) ?_
      refine V_iload 76 dX8_roomOf_74 rfl rfl ?_
      refine V_ialdN 77 (_) dX8_roomOf_76 rfl rfl (by decide) rfl (show _ < 24 by omega) (by decide) ?_
      refine V_istore 79 dX8_roomOf_77 rfl (by decide) ?_
      refine V_goto 7 dX8_roomOf_79 rfl ?_
      rcases hp a ha with e5 | ⟨c, hc, e5⟩
      · rw [m_room_none e5] at hP
        rw [e5]
        exact lp_X8_roomOf0 hP rfl rfl
      · rw [m_room_some (by omega) hp ha hc e5] at hP
        rw [e5]
        exact V_at (ih c hc (by omega) _ hP) ⟨rfl, rfl, rfl, rfl, trivial⟩
    refine V_iload 9 dX8_roomOf_7 rfl rfl ?_
    refine V_iconst (v := (-1)) 10 dX8_roomOf_9 rfl (by decide) ?_
    refine V_icmp_eq 82 13 dX8_roomOf_10 rfl rfl (fun c_10 => ?_) (fun c_10 => ?_)
    · skip
      exact absurd c_10 (nI_ne_m1 (by omega))
    · skip
      refine V_aload_n 14 dX8_roomOf_13 rfl rfl ?_
      refine V_getR 17 8 4 fl_X8_21 dX8_roomOf_14 rfl rfl (by decide) (Or.inr ⟨_, rfl⟩) (by decide) (sr_4 hS) ?_
      refine V_iconst (v := 4) 18 dX8_roomOf_17 rfl (by decide) ?_
      refine V_iload 20 dX8_roomOf_18 rfl rfl ?_
      refine V_imul 21 dX8_roomOf_20 rfl ?_
      refine V_iload_n 22 dX8_roomOf_21 rfl rfl ?_
      refine V_iadd 23 dX8_roomOf_22 rfl ?_
      refine V_ialdN 24 (4 * a + r) dX8_roomOf_23 rfl rfl (by decide) e4 (show _ < 96 by omega) (by decide) ?_
      refine V_iconst (v := (-1)) 25 dX8_roomOf_24 rfl (by decide) ?_
      refine V_icmp_eq 70 28 dX8_roomOf_25 rfl rfl (fun c_25 => ?_) (fun c_25 => ?_)
      · skip
        refine V_at (fin _ ?_) ⟨rfl, rfl, rfl, rfl, trivial⟩
        simp only [m_room1]
        grind
      · skip
        refine V_lload_n 29 dX8_roomOf_28 rfl rfl ?_
        refine V_aload_n 30 dX8_roomOf_29 rfl rfl ?_
        refine V_getR 33 8 4 fl_X8_21 dX8_roomOf_30 rfl rfl (by decide) (Or.inr ⟨_, rfl⟩) (by decide) (sr_4 hS) ?_
        refine V_iconst (v := 4) 34 dX8_roomOf_33 rfl (by decide) ?_
        refine V_iload 36 dX8_roomOf_34 rfl rfl ?_
        refine V_imul 37 dX8_roomOf_36 rfl ?_
        refine V_iload_n 38 dX8_roomOf_37 rfl rfl ?_
        refine V_iadd 39 dX8_roomOf_38 rfl ?_
        refine V_ialdN 40 (4 * a + r) dX8_roomOf_39 rfl rfl (by decide) e4 (show _ < 96 by omega) (by decide) ?_
        refine V_i2l 41 dX8_roomOf_40 rfl ?_
        refine V_aload_n 42 dX8_roomOf_41 rfl rfl ?_
        refine V_iload 44 dX8_roomOf_42 rfl rfl ?_
        refine V_iload_n 45 dX8_roomOf_44 rfl rfl ?_
        refine V_aload_n 46 dX8_roomOf_45 rfl rfl ?_
        refine V_geti 49 8 0 fl_X8_24 dX8_roomOf_46 rfl rfl (by decide) rfl (by decide) ?_
        refine V_sipush (v := 1000) 52 dX8_roomOf_49 rfl (by decide) ?_
        refine V_idiv 53 dX8_roomOf_52 rfl (by decide) ?_
        rw [enow]
        refine V_cV3l 56 (ct_X8_usedOf hS ea hna hp ha hr hpp) cs_X8_71 rfl rfl (by decide) dX8_roomOf_53 rfl ⟨Nat.le_of_ble_eq_true rfl, Nat.le_of_ble_eq_true rfl⟩ (Nat.le_of_ble_eq_true rfl) ⟨Nat.le_of_ble_eq_true rfl, Nat.le_of_ble_eq_true rfl⟩ (fun x h' hx hle => ?_)
        obtain ⟨rfl, rfl⟩ := hx
        refine V_lsub 57 dX8_roomOf_56 rfl ?_
        refine V_aload_n 58 dX8_roomOf_57 rfl rfl ?_
        refine V_iload 60 dX8_roomOf_58 rfl rfl ?_
        refine V_iload_n 61 dX8_roomOf_60 rfl rfl ?_
        refine V_cV2i 64 (ct_X8_heldOf hS hna hp e hnh hH ha) cs_X8_94 rfl rfl (by decide) dX8_roomOf_61 rfl ⟨Nat.le_of_ble_eq_true rfl, Nat.le_of_ble_eq_true rfl⟩ (Nat.le_of_ble_eq_true rfl) ⟨Nat.le_of_ble_eq_true rfl, Nat.le_of_ble_eq_true rfl⟩ (fun x h' hx hle => ?_)
        obtain ⟨rfl, rfl⟩ := hx
        refine V_i2l 65 dX8_roomOf_64 rfl ?_
        refine V_lsub 66 dX8_roomOf_65 rfl ?_
        refine V_cS2l 69 (ct_J9_min_f86c9 _ _ _) cs_X8_109 dX8_roomOf_66 rfl ⟨Nat.le_of_ble_eq_true rfl, Nat.le_of_ble_eq_true rfl⟩ (Nat.le_of_ble_eq_true rfl) ⟨Nat.le_of_ble_eq_true rfl, Nat.le_of_ble_eq_true rfl⟩ (fun x h' hx hle => ?_)
        obtain ⟨rfl, rfl⟩ := hx
        refine V_lstore_n 70 dX8_roomOf_69 rfl (by decide) ?_
        refine V_at (fin _ ?_) ⟨rfl, rfl, rfl, rfl, trivial⟩
        simp only [m_room1]
        grind
theorem ct_X8_roomOf {na nh r p a : Nat} (hS : SHR h) (ea : qg_i h 33 0 1 = nI na) (hna : na ≤ 24) (hp : WI (qg_i h 35 0) na) (e : qg_i h 33 0 10 = nI nh) (hnh : nh ≤ 200) (hH : WH h na nh) (hr : r < 4) (hpp : p < 100) (enow : qg_i h 33 0 0 / 1000 = nI p) (ha : a < na) : qM yX8_roomOf cX8_roomOf 6 ((some .long)) 2 49 0 0 [.inr (.inr (some (33, 0))), .inl (nI a), .inl (nI r)] h (pL fun x h' => x = m_room h na nh p r a ∧ h' = h) := by
  refine qM.of (plainFor_of_name (by decide)) (Nat.le_of_ble_eq_true rfl) ?_
  refine V_ldc2 (v := 1000000) 3 dX8_roomOf_0 rfl wc_X8_107 ?_
  refine V_lstore_n 4 dX8_roomOf_3 rfl (by decide) ?_
  refine V_iload_n 5 dX8_roomOf_4 rfl rfl ?_
  refine V_istore 7 dX8_roomOf_5 rfl (by decide) ?_
  exact V_at (lp_X8_roomOf hS ea hna hp e hnh hH hr hpp enow a ha _ ⟨_, rfl, rfl, rfl⟩) ⟨rfl, rfl, rfl, rfl, trivial⟩
end RG
