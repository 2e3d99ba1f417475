/-! Keys as lists; the reference: forget, come, event, settle -/
def kl (h : qH) (a b c n : Nat) : List (Int64 × Int32 × Int32) := (List.range n).map (fun k => (qg_l h a 0 k, qg_i h b 0 k, qg_i h c 0 k))
theorem kl_len (h : qH) (a b c n : Nat) : (kl h a b c n).length = n := by simp [kl]
theorem kl_succ (h : qH) (a b c n : Nat) : kl h a b c (n + 1) = kl h a b c n ++ [(qg_l h a 0 n, qg_i h b 0 n, qg_i h c 0 n)] := by
  unfold kl
  rw [List.range_succ, List.map_append]
  rfl
theorem kl_congr {h h' : qH} {a b c n : Nat} (e : ∀ k, k < n → qg_l h' a 0 k = qg_l h a 0 k ∧ qg_i h' b 0 k = qg_i h b 0 k ∧ qg_i h' c 0 k = qg_i h c 0 k) : kl h' a b c n = kl h a b c n := by
  unfold kl
  apply List.map_congr_left
  intro k hk
  obtain ⟨e1, e2, e3⟩ := e k (List.mem_range.mp hk)
  rw [e1, e2, e3]
theorem kl_push {h : qH} {a b c n : Nat} (hbc : b ≠ c) (x : Int64) (y z : Int32) : kl (qs_i (qs_i (qs_l h a 0 n x) b 0 n y) c 0 n z) a b c (n + 1) = kl h a b c n ++ [(x, y, z)] := by
  rw [kl_succ]
  congr 1
  · apply kl_congr
    intro k hk
    have : k ≠ n := Nat.ne_of_lt hk
    simp [qii, qll, qli, qil, this]
  · simp [qii, qll, qli, qil, hbc]
theorem kl_mem {h : qH} {a b c n : Nat} {e : Int64 × Int32 × Int32} : e ∈ kl h a b c n ↔ ∃ k, k < n ∧ e = (qg_l h a 0 k, qg_i h b 0 k, qg_i h c 0 k) := by
  unfold kl
  rw [List.mem_map]
  constructor
  · rintro ⟨k, hk, rfl⟩
    exact ⟨k, List.mem_range.mp hk, rfl⟩
  · rintro ⟨k, hk, rfl⟩
    exact ⟨k, List.mem_range.mpr hk, rfl⟩
section RK
variable {h : qH}
/-- all but the keys is as before -/
def KF (h g : qH) : Prop := (qg_n g = qg_n h ∧ qg_r g = qg_r h) ∧ ∀ r i k, ¬ (r = 38 ∨ r = 39 ∨ r = 40 ∨ (r = 33 ∧ k = 6)) → qg_i g r i k = qg_i h r i k ∧ qg_l g r i k = qg_l h r i k
/-- g is h with the old keys forgotten -/
def FG (h : qH) (nk : Nat) (g : qH) (ng : Nat) : Prop := qg_i g 33 0 6 = nI ng ∧ ng ≤ nk ∧ kl g 38 39 40 ng = (kl h 38 39 40 nk).filter (fun e => qg_i h 33 0 0 < e.2.2 + 1000) ∧ KF h g
theorem KF.refl (h : qH) : KF h h := ⟨⟨rfl, rfl⟩, fun _ _ _ _ => ⟨rfl, rfl⟩⟩
theorem lp_X8_forget {nk : Nat} (hS : SHR h) (e : qg_i h 33 0 6 = nI nk) (hnk : nk ≤ 300) {n0 : Nat → Nat} {Post : Option qV → qH → Prop} (hP : ∀ g ng, FG h nk g ng → Post none g) :
    ∀ (m i n : Nat) (g : qH), i + m = nk → n ≤ i → kl g 38 39 40 n = (kl h 38 39 40 i).filter (fun e => qg_i h 33 0 0 < e.2.2 + 1000) → (∀ k, i ≤ k → qg_l g 38 0 k = qg_l h 38 0 k ∧ qg_i g 39 0 k = qg_i h 39 0 k ∧ qg_i g 40 0 k = qg_i h 40 0 k) → KF h g → qg_i g 33 0 6 = nI nk →
      Vw yX8_forget cX8_forget 3 none (qrm 0 0 0 0) 0 0 n0 Post 4 [(0, .inr (.inr (some (33, 0)))), (1, .inl (nI n)), (2, .inl (nI i))] [] g 0 0 := by
  intro m
  induction m with
  | zero =>
    intro i n g hi hn hk1 hk2 hk3 hk4
    have hi : i = nk := by omega
    subst hi
    refine V_iload_n 5 dX8_forget_4 rfl rfl ?_
    refine V_aload_n 6 dX8_forget_5 rfl rfl ?_
    refine V_getiV 9 8 6 fl_X8_32 dX8_forget_6 rfl rfl (by decide) rfl (by decide) hk4 ?_
    refine V_icmp_ge 74 12 dX8_forget_9 rfl rfl (fun c_9 => ?_) (fun c_9 => ?_)
    · skip
      refine V_aload_n 75 dX8_forget_74 rfl rfl ?_
      refine V_iload_n 76 dX8_forget_75 rfl rfl ?_
      refine V_puti 79 8 6 fl_X8_32 dX8_forget_76 rfl rfl (by decide) rfl (by decide) (Or.inl rfl) ?_
      refine V_vret dX8_forget_79 rfl ?_ (by first | exact Nat.le_refl _ | decide | omega) (by first | exact Nat.le_refl _ | decide | omega)
      refine hP _ n ⟨by simp [qii], hn, ?_, hk3.1, fun r i k hk => ?_⟩
      · rw [← hk1]
        exact kl_congr (fun k _ => ⟨rfl, rfl, rfl⟩)
      · rw [← (hk3.2 r i k hk).1, ← (hk3.2 r i k hk).2]
        refine ⟨?_, rfl⟩
        rw [qii, if_neg]
        rintro ⟨q1, -, q3⟩
        exact hk (Or.inr (Or.inr (Or.inr ⟨q1, q3⟩)))
    · skip
      exact absurd (nI_le (Nat.le_refl _) (by omega)) c_9
  | succ m ih =>
    intro i n g hi hn hk1 hk2 hk3 hk4
    obtain ⟨j1, j2, j3⟩ := hk2 i (Nat.le_refl _)
    have enow : qg_i g 33 0 0 = qg_i h 33 0 0 := (hk3.2 33 0 0 (by omega)).1
    have hSg : SHR g := fun k => by rw [hk3.1.2]; exact hS k
    refine V_iload_n 5 dX8_forget_4 rfl rfl ?_
    refine V_aload_n 6 dX8_forget_5 rfl rfl ?_
    refine V_getiV 9 8 6 fl_X8_32 dX8_forget_6 rfl rfl (by decide) rfl (by decide) hk4 ?_
    refine V_icmp_ge 74 12 dX8_forget_9 rfl rfl (fun c_9 => ?_) (fun c_9 => ?_)
    · skip
      exact absurd c_9 (nI_ge (by omega) (by omega))
    · skip
      refine V_aload_n 13 dX8_forget_12 rfl rfl ?_
      refine V_getiV 16 8 0 fl_X8_24 dX8_forget_13 rfl rfl (by decide) rfl (by decide) enow ?_
      refine V_aload_n 17 dX8_forget_16 rfl rfl ?_
      refine V_getR 20 8 9 fl_X8_35 dX8_forget_17 rfl rfl (by decide) (Or.inr ⟨_, rfl⟩) (by decide) (sr_9 hSg) ?_
      refine V_iload_n 21 dX8_forget_20 rfl rfl ?_
      refine V_ialdV 22 (_) dX8_forget_21 rfl rfl (by decide) rfl (show _ < 300 by omega) (by decide) j3 ?_
      refine V_sipush (v := 1000) 25 dX8_forget_22 rfl (by decide) ?_
      refine V_iadd 26 dX8_forget_25 rfl ?_
      refine V_icmp_ge 68 29 dX8_forget_26 rfl rfl (fun c_26 => ?_) (fun c_26 => ?_)
      · skip
        refine V_iincN 71 dX8_forget_68 rfl rfl (by decide) ?_
        refine V_goto 4 dX8_forget_71 rfl ?_
        have hlist : kl h 38 39 40 (i + 1) = kl h 38 39 40 i ++ [(qg_l h 38 0 i, qg_i h 39 0 i, qg_i h 40 0 i)] := kl_succ _ _ _ _ _
        first
          | refine V_at (ih (i + 1) n g (by omega) (by omega) ?_ (fun k hk => hk2 k (by omega)) hk3 hk4) ⟨rfl, rfl, rfl, trivial⟩
            rw [hlist, List.filter_append, hk1]
            have : ¬ qg_i h 33 0 0 < qg_i h 40 0 i + 1000 := by grind
            simp [this]
          | refine V_at (ih (i + 1) (n + 1) _ (by omega) (by omega) ?_ (fun k hk => ?_) ⟨hk3.1, fun r i k hk => ?_⟩ hk4) ⟨rfl, rfl, rfl, trivial⟩
            · rw [kl_push (by decide), hlist, List.filter_append, hk1]
              have : qg_i h 33 0 0 < qg_i h 40 0 i + 1000 := by grind
              simp [this]
            · rw [← (hk2 k (by omega)).1, ← (hk2 k (by omega)).2.1, ← (hk2 k (by omega)).2.2]
              have : k ≠ n := by omega
              simp [qii, qll, qli, qil, this]
            · rw [← (hk3.2 r i k hk).1, ← (hk3.2 r i k hk).2]
              have q1 : r ≠ 38 := fun q => hk (Or.inl q)
              have q2 : r ≠ 39 := fun q => hk (Or.inr (Or.inl q))
              have q3 : r ≠ 40 := fun q => hk (Or.inr (Or.inr (Or.inl q)))
              simp [qii, qll, qli, qil, q1, q2, q3]
      · skip
        refine V_aload_n 30 dX8_forget_29 rfl rfl ?_
        refine V_getR 33 8 7 fl_X8_38 dX8_forget_30 rfl rfl (by decide) (Or.inr ⟨_, rfl⟩) (by decide) (sr_7 hSg) ?_
        refine V_iload_n 34 dX8_forget_33 rfl rfl ?_
        refine V_aload_n 35 dX8_forget_34 rfl rfl ?_
        refine V_getR 38 8 7 fl_X8_38 dX8_forget_35 rfl rfl (by decide) (Or.inr ⟨_, rfl⟩) (by decide) (sr_7 hSg) ?_
        refine V_iload_n 39 dX8_forget_38 rfl rfl ?_
        refine V_laldV 40 (_) dX8_forget_39 rfl rfl (by decide) rfl (show _ < 300 by omega) (by decide) j1 ?_
        refine V_lastN 41 (_) dX8_forget_40 rfl rfl (by decide) rfl (show _ < 300 by omega) (by decide) ?_
        refine V_aload_n 42 dX8_forget_41 rfl rfl ?_
        refine V_getR 45 8 8 fl_X8_42 dX8_forget_42 rfl rfl (by decide) (Or.inr ⟨_, rfl⟩) (by decide) (sr_8 hSg) ?_
        refine V_iload_n 46 dX8_forget_45 rfl rfl ?_
        refine V_aload_n 47 dX8_forget_46 rfl rfl ?_
        refine V_getR 50 8 8 fl_X8_42 dX8_forget_47 rfl rfl (by decide) (Or.inr ⟨_, rfl⟩) (by decide) (sr_8 hSg) ?_
        refine V_iload_n 51 dX8_forget_50 rfl rfl ?_
        refine V_ialdV 52 (_) dX8_forget_51 rfl rfl (by decide) rfl (show _ < 300 by omega) (by decide) j2 ?_
        refine V_iastN 53 (_) dX8_forget_52 rfl rfl (by decide) rfl (show _ < 300 by omega) (by decide) ?_
        refine V_aload_n 54 dX8_forget_53 rfl rfl ?_
        refine V_getR 57 8 9 fl_X8_35 dX8_forget_54 rfl rfl (by decide) (Or.inr ⟨_, rfl⟩) (by decide) (sr_9 hSg) ?_
        refine V_iload_n 58 dX8_forget_57 rfl rfl ?_
        refine V_aload_n 59 dX8_forget_58 rfl rfl ?_
        refine V_getR 62 8 9 fl_X8_35 dX8_forget_59 rfl rfl (by decide) (Or.inr ⟨_, rfl⟩) (by decide) (sr_9 hSg) ?_
        refine V_iload_n 63 dX8_forget_62 rfl rfl ?_
        refine V_ialdV 64 (_) dX8_forget_63 rfl rfl (by decide) rfl (show _ < 300 by omega) (by decide) j3 ?_
        refine V_iastN 65 (_) dX8_forget_64 rfl rfl (by decide) rfl (show _ < 300 by omega) (by decide) ?_
        refine V_iincN 68 dX8_forget_65 rfl rfl (by decide) ?_
        refine V_iincN 71 dX8_forget_68 rfl rfl (by decide) ?_
        refine V_goto 4 dX8_forget_71 rfl ?_
        have hlist : kl h 38 39 40 (i + 1) = kl h 38 39 40 i ++ [(qg_l h 38 0 i, qg_i h 39 0 i, qg_i h 40 0 i)] := kl_succ _ _ _ _ _
        first
          | refine V_at (ih (i + 1) n g (by omega) (by omega) ?_ (fun k hk => hk2 k (by omega)) hk3 hk4) ⟨rfl, rfl, rfl, trivial⟩
            rw [hlist, List.filter_append, hk1]
            have : ¬ qg_i h 33 0 0 < qg_i h 40 0 i + 1000 := by grind
            simp [this]
          | refine V_at (ih (i + 1) (n + 1) _ (by omega) (by omega) ?_ (fun k hk => ?_) ⟨hk3.1, fun r i k hk => ?_⟩ hk4) ⟨rfl, rfl, rfl, trivial⟩
            · rw [kl_push (by decide), hlist, List.filter_append, hk1]
              have : qg_i h 33 0 0 < qg_i h 40 0 i + 1000 := by grind
              simp [this]
            · rw [← (hk2 k (by omega)).1, ← (hk2 k (by omega)).2.1, ← (hk2 k (by omega)).2.2]
              have : k ≠ n := by omega
              simp [qii, qll, qli, qil, this]
            · rw [← (hk3.2 r i k hk).1, ← (hk3.2 r i k hk).2]
              have q1 : r ≠ 38 := fun q => hk (Or.inl q)
              have q2 : r ≠ 39 := fun q => hk (Or.inr (Or.inl q))
              have q3 : r ≠ 40 := fun q => hk (Or.inr (Or.inr (Or.inl q)))
              simp [qii, qll, qli, qil, q1, q2, q3]
theorem ct_X8_forget {nk : Nat} (hS : SHR h) (e : qg_i h 33 0 6 = nI nk) (hnk : nk ≤ 300) : qM yX8_forget cX8_forget 3 none 0 0 0 0 [.inr (.inr (some (33, 0)))] h (pV fun g => ∃ ng, FG h nk g ng) := by
  refine qM.of (plainFor_of_name (by decide)) (Nat.le_of_ble_eq_true rfl) ?_
  refine V_iconst (v := 0) 1 dX8_forget_0 rfl (by decide) ?_
  refine V_istore_n 2 dX8_forget_1 rfl (by decide) ?_
  refine V_iconst (v := 0) 3 dX8_forget_2 rfl (by decide) ?_
  refine V_istore_n 4 dX8_forget_3 rfl (by decide) ?_
  exact V_at (lp_X8_forget hS e hnk (fun g ng q => ⟨rfl, ng, q⟩) nk 0 0 h (by omega) (by omega) rfl (fun k _ => ⟨rfl, rfl, rfl⟩) (KF.refl h) e) ⟨rfl, rfl, rfl, trivial⟩
/-- is the key known -/
def kn (l : List (Int64 × Int32 × Int32)) (x : Int64) (t : Int32) : Prop := ∃ e ∈ l, e.1 = x ∧ e.2.1 = t
theorem lp_X8_come {g : qH} {ng : Nat} {key : Int64} {a r u mi t : Int32} (hS : SHR g) (e : qg_i g 33 0 6 = nI ng) (hng : ng ≤ 300) {n0 : Nat → Nat} {Post : Option qV → qH → Prop} (hP : kn (kl g 38 39 40 ng) key t → Post (some (.inl (-6))) g)
    (K : ¬ kn (kl g 38 39 40 ng) key t → Vw yX8_come cX8_come 10 ((some .int)) (qrm 3 90 0 0) 0 0 n0 Post 85 [(0, .inr (.inr (some (33, 0)))), (1, .inr (.inl key)), (3, .inl a), (4, .inl r), (5, .inl u), (6, .inl mi), (7, .inl t)] [] g 0 0) :
    ∀ (m i : Nat), i + m = ng → (∀ k, k < i → ¬ (qg_l g 38 0 k = key ∧ qg_i g 39 0 k = t)) → Vw yX8_come cX8_come 10 ((some .int)) (qrm 3 90 0 0) 0 0 n0 Post 43 [(0, .inr (.inr (some (33, 0)))), (1, .inr (.inl key)), (3, .inl a), (4, .inl r), (5, .inl u), (6, .inl mi), (7, .inl t), (8, .inl (nI i))] [] g 0 0 := by
  intro m
  induction m with
  | zero =>
    intro i hi hno
    have hi : i = ng := by omega
    subst hi
    refine V_iload 45 dX8_come_43 rfl rfl ?_
    refine V_aload_n 46 dX8_come_45 rfl rfl ?_
    refine V_getiV 49 8 6 fl_X8_32 dX8_come_46 rfl rfl (by decide) rfl (by decide) e ?_
    refine V_icmp_ge 85 52 dX8_come_49 rfl rfl (fun c_49 => ?_) (fun c_49 => ?_)
    · skip
      refine V_at (K ?_) ⟨rfl, rfl, rfl, rfl, rfl, rfl, rfl, trivial⟩
      rintro ⟨x, hx, h1, h2⟩
      obtain ⟨k, hk, rfl⟩ := kl_mem.mp hx
      exact hno k hk ⟨h1, h2⟩
    · skip
      exact absurd (nI_le (Nat.le_refl _) (by omega)) c_49
  | succ m ih =>
    intro i hi hno
    refine V_iload 45 dX8_come_43 rfl rfl ?_
    refine V_aload_n 46 dX8_come_45 rfl rfl ?_
    refine V_getiV 49 8 6 fl_X8_32 dX8_come_46 rfl rfl (by decide) rfl (by decide) e ?_
    refine V_icmp_ge 85 52 dX8_come_49 rfl rfl (fun c_49 => ?_) (fun c_49 => ?_)
    · skip
      exact absurd c_49 (nI_ge (by omega) (by omega))
    · skip
      refine V_aload_n 53 dX8_come_52 rfl rfl ?_
      refine V_getR 56 8 7 fl_X8_38 dX8_come_53 rfl rfl (by decide) (Or.inr ⟨_, rfl⟩) (by decide) (sr_7 hS) ?_
      refine V_iload 58 dX8_come_56 rfl rfl ?_
      refine V_laldN 59 (_) dX8_come_58 rfl rfl (by decide) rfl (show _ < 300 by omega) (by decide) ?_
      refine V_lload_n 60 dX8_come_59 rfl rfl ?_
      refine V_lcmp 61 dX8_come_60 rfl ?_
      refine V_if_ne 79 64 dX8_come_61 rfl rfl (fun c_61 => ?_) (fun c_61 => ?_)
      · (rw [lg_eq] at c_61)
        refine V_iincN 82 dX8_come_79 rfl rfl (by decide) ?_
        refine V_goto 43 dX8_come_82 rfl ?_
        refine V_at (ih (i + 1) (by omega) (fun k hk => ?_)) ⟨rfl, rfl, rfl, rfl, rfl, rfl, rfl, rfl, trivial⟩
        rcases Nat.lt_or_ge k i with q | q
        · exact hno k q
        · have : k = i := by omega
          subst this
          grind
      · (rw [lg_eq] at c_61)
        refine V_aload_n 65 dX8_come_64 rfl rfl ?_
        refine V_getR 68 8 8 fl_X8_42 dX8_come_65 rfl rfl (by decide) (Or.inr ⟨_, rfl⟩) (by decide) (sr_8 hS) ?_
        refine V_iload 70 dX8_come_68 rfl rfl ?_
        refine V_ialdN 71 (_) dX8_come_70 rfl rfl (by decide) rfl (show _ < 300 by omega) (by decide) ?_
        refine V_iload 73 dX8_come_71 rfl rfl ?_
        refine V_icmp_ne 79 76 dX8_come_73 rfl rfl (fun c_73 => ?_) (fun c_73 => ?_)
        · skip
          refine V_iincN 82 dX8_come_79 rfl rfl (by decide) ?_
          refine V_goto 43 dX8_come_82 rfl ?_
          refine V_at (ih (i + 1) (by omega) (fun k hk => ?_)) ⟨rfl, rfl, rfl, rfl, rfl, rfl, rfl, rfl, trivial⟩
          rcases Nat.lt_or_ge k i with q | q
          · exact hno k q
          · have : k = i := by omega
            subst this
            grind
        · skip
          refine V_bipush (v := (-6)) 78 dX8_come_76 rfl (by decide) ?_
          refine V_iret dX8_come_78 rfl rfl ?_ (by first | exact Nat.le_refl _ | decide | omega) (by first | exact Nat.le_refl _ | decide | omega)
          exact hP ⟨_, kl_mem.mpr ⟨i, by omega, rfl⟩, c_61, c_73⟩
theorem ct_X8_come_early {key : Int64} {a r u mi : Int32} (hm : qg_i h 33 0 0 < mi) : qM yX8_come cX8_come 10 ((some .int)) 3 90 0 0 [.inr (.inr (some (33, 0))), .inr (.inl key), .inl a, .inl r, .inl u, .inl mi] h (pI fun x h' => x = -4 ∧ h' = h) := by
  refine qM.of (plainFor_of_name (by decide)) (Nat.le_of_ble_eq_true rfl) ?_
  refine V_iload 2 dX8_come_0 rfl rfl ?_
  refine V_aload_n 3 dX8_come_2 rfl rfl ?_
  refine V_geti 6 8 0 fl_X8_24 dX8_come_3 rfl rfl (by decide) rfl (by decide) ?_
  refine V_icmp_le 12 9 dX8_come_6 rfl rfl (fun c_6 => ?_) (fun c_6 => ?_)
  · skip
    grind
  · skip
    refine V_bipush (v := (-4)) 11 dX8_come_9 rfl (by decide) ?_
    refine V_iret dX8_come_11 rfl rfl ⟨_, rfl, ?_⟩ (by first | exact Nat.le_refl _ | decide | omega) (by first | exact Nat.le_refl _ | decide | omega)
    exact ⟨rfl, rfl⟩
theorem ct_X8_come_late {key : Int64} {a r u mi : Int32} (hm : mi ≤ qg_i h 33 0 0) (hl : mi < qg_i h 33 0 0 - 500) : qM yX8_come cX8_come 10 ((some .int)) 3 90 0 0 [.inr (.inr (some (33, 0))), .inr (.inl key), .inl a, .inl r, .inl u, .inl mi] h (pI fun x h' => x = -5 ∧ h' = h) := by
  refine qM.of (plainFor_of_name (by decide)) (Nat.le_of_ble_eq_true rfl) ?_
  refine V_iload 2 dX8_come_0 rfl rfl ?_
  refine V_aload_n 3 dX8_come_2 rfl rfl ?_
  refine V_geti 6 8 0 fl_X8_24 dX8_come_3 rfl rfl (by decide) rfl (by decide) ?_
  refine V_icmp_le 12 9 dX8_come_6 rfl rfl (fun c_6 => ?_) (fun c_6 => ?_)
  · skip
    refine V_iload 14 dX8_come_12 rfl rfl ?_
    refine V_aload_n 15 dX8_come_14 rfl rfl ?_
    refine V_geti 18 8 0 fl_X8_24 dX8_come_15 rfl rfl (by decide) rfl (by decide) ?_
    refine V_sipush (v := 500) 21 dX8_come_18 rfl (by decide) ?_
    refine V_isub 22 dX8_come_21 rfl ?_
    refine V_icmp_ge 28 25 dX8_come_22 rfl rfl (fun c_22 => ?_) (fun c_22 => ?_)
    · skip
      grind
    · skip
      refine V_bipush (v := (-5)) 27 dX8_come_25 rfl (by decide) ?_
      refine V_iret dX8_come_27 rfl rfl ⟨_, rfl, ?_⟩ (by first | exact Nat.le_refl _ | decide | omega) (by first | exact Nat.le_refl _ | decide | omega)
      exact ⟨rfl, rfl⟩
  · skip
    grind
theorem ct_X8_come_dup {na nk a t : Nat} {key : Int64} {r u mi : Int32} (hS : SHR h) (hna : na ≤ 24) (ha : a < na) (et : qg_i h 34 0 a = nI t) (ek : qg_i h 33 0 6 = nI nk) (hnk : nk ≤ 300) (hm : mi ≤ qg_i h 33 0 0) (hl : qg_i h 33 0 0 - 500 ≤ mi) (hk : kn ((kl h 38 39 40 nk).filter (fun e => qg_i h 33 0 0 < e.2.2 + 1000)) key (nI t)) : qM yX8_come cX8_come 10 ((some .int)) 3 90 0 0 [.inr (.inr (some (33, 0))), .inr (.inl key), .inl (nI a), .inl r, .inl u, .inl mi] h (pI fun x g => x = -6 ∧ ∃ ng, FG h nk g ng) := by
  refine qM.of (plainFor_of_name (by decide)) (Nat.le_of_ble_eq_true rfl) ?_
  refine V_iload 2 dX8_come_0 rfl rfl ?_
  refine V_aload_n 3 dX8_come_2 rfl rfl ?_
  refine V_geti 6 8 0 fl_X8_24 dX8_come_3 rfl rfl (by decide) rfl (by decide) ?_
  refine V_icmp_le 12 9 dX8_come_6 rfl rfl (fun c_6 => ?_) (fun c_6 => ?_)
  · skip
    refine V_iload 14 dX8_come_12 rfl rfl ?_
    refine V_aload_n 15 dX8_come_14 rfl rfl ?_
    refine V_geti 18 8 0 fl_X8_24 dX8_come_15 rfl rfl (by decide) rfl (by decide) ?_
    refine V_sipush (v := 500) 21 dX8_come_18 rfl (by decide) ?_
    refine V_isub 22 dX8_come_21 rfl ?_
    refine V_icmp_ge 28 25 dX8_come_22 rfl rfl (fun c_22 => ?_) (fun c_22 => ?_)
    · skip
      refine V_aload_n 29 dX8_come_28 rfl rfl ?_
      refine V_cV0v 32 (ct_X8_forget hS ek hnk) cs_X8_45 rfl rfl (by decide) dX8_come_29 rfl ⟨Nat.le_of_ble_eq_true rfl, Nat.le_of_ble_eq_true rfl⟩ (Nat.le_of_ble_eq_true rfl) ⟨Nat.le_of_ble_eq_true rfl, Nat.le_of_ble_eq_true rfl⟩ (fun h' hx hle => ?_)
      obtain ⟨ng, hF⟩ := hx
      refine V_aload_n 33 dX8_come_32 rfl rfl ?_
      refine V_getR 36 8 2 fl_X8_14 dX8_come_33 rfl rfl (by decide) (Or.inr ⟨_, rfl⟩) (by decide) (sr_2 (fun k => by rw [hF.2.2.2.1.2]; exact hS k)) ?_
      refine V_iload_n 37 dX8_come_36 rfl rfl ?_
      refine V_ialdV 38 (_) dX8_come_37 rfl rfl (by decide) rfl (show _ < 24 by omega) (by decide) (show _ = nI t by rw [(hF.2.2.2.2 34 0 a (by omega)).1]; exact et) ?_
      refine V_istore 40 dX8_come_38 rfl (by decide) ?_
      refine V_iconst (v := 0) 41 dX8_come_40 rfl (by decide) ?_
      refine V_istore 43 dX8_come_41 rfl (by decide) ?_
      refine V_at (lp_X8_come (fun k => by rw [hF.2.2.2.1.2]; exact hS k) hF.1 (by have := hF.2.1; omega) (fun _ => ⟨_, rfl, rfl, ng, hF⟩) (fun q => absurd ?_ q) ng 0 (by omega) (fun k hk => absurd hk (Nat.not_lt_zero k))) ⟨rfl, rfl, rfl, rfl, rfl, rfl, rfl, rfl, trivial⟩
      rw [hF.2.2.1]
      exact hk
    · skip
      grind
  · skip
    grind
theorem ct_X8_come_full {na nk a t : Nat} {key : Int64} {r u mi : Int32} (hS : SHR h) (hna : na ≤ 24) (ha : a < na) (et : qg_i h 34 0 a = nI t) (ek : qg_i h 33 0 6 = nI nk) (hnk : nk ≤ 300) (hm : mi ≤ qg_i h 33 0 0) (hl : qg_i h 33 0 0 - 500 ≤ mi) (hk : ¬ kn ((kl h 38 39 40 nk).filter (fun e => qg_i h 33 0 0 < e.2.2 + 1000)) key (nI t)) (hf : ((kl h 38 39 40 nk).filter (fun e => qg_i h 33 0 0 < e.2.2 + 1000)).length = 300) : qM yX8_come cX8_come 10 ((some .int)) 3 90 0 0 [.inr (.inr (some (33, 0))), .inr (.inl key), .inl (nI a), .inl r, .inl u, .inl mi] h (pI fun x g => x = -3 ∧ ∃ ng, FG h nk g ng) := by
  refine qM.of (plainFor_of_name (by decide)) (Nat.le_of_ble_eq_true rfl) ?_
  refine V_iload 2 dX8_come_0 rfl rfl ?_
  refine V_aload_n 3 dX8_come_2 rfl rfl ?_
  refine V_geti 6 8 0 fl_X8_24 dX8_come_3 rfl rfl (by decide) rfl (by decide) ?_
  refine V_icmp_le 12 9 dX8_come_6 rfl rfl (fun c_6 => ?_) (fun c_6 => ?_)
  · skip
    refine V_iload 14 dX8_come_12 rfl rfl ?_
    refine V_aload_n 15 dX8_come_14 rfl rfl ?_
    refine V_geti 18 8 0 fl_X8_24 dX8_come_15 rfl rfl (by decide) rfl (by decide) ?_
    refine V_sipush (v := 500) 21 dX8_come_18 rfl (by decide) ?_
    refine V_isub 22 dX8_come_21 rfl ?_
    refine V_icmp_ge 28 25 dX8_come_22 rfl rfl (fun c_22 => ?_) (fun c_22 => ?_)
    · skip
      refine V_aload_n 29 dX8_come_28 rfl rfl ?_
      refine V_cV0v 32 (ct_X8_forget hS ek hnk) cs_X8_45 rfl rfl (by decide) dX8_come_29 rfl ⟨Nat.le_of_ble_eq_true rfl, Nat.le_of_ble_eq_true rfl⟩ (Nat.le_of_ble_eq_true rfl) ⟨Nat.le_of_ble_eq_true rfl, Nat.le_of_ble_eq_true rfl⟩ (fun h' hx hle => ?_)
      obtain ⟨ng, hF⟩ := hx
      have hSg : SHR h' := fun k => by rw [hF.2.2.2.1.2]; exact hS k
      have hng : ng = 300 := by rw [← hf, ← hF.2.2.1, kl_len]
      refine V_aload_n 33 dX8_come_32 rfl rfl ?_
      refine V_getR 36 8 2 fl_X8_14 dX8_come_33 rfl rfl (by decide) (Or.inr ⟨_, rfl⟩) (by decide) (sr_2 hSg) ?_
      refine V_iload_n 37 dX8_come_36 rfl rfl ?_
      refine V_ialdV 38 (_) dX8_come_37 rfl rfl (by decide) rfl (show _ < 24 by omega) (by decide) (show _ = nI t by rw [(hF.2.2.2.2 34 0 a (by omega)).1]; exact et) ?_
      refine V_istore 40 dX8_come_38 rfl (by decide) ?_
      refine V_iconst (v := 0) 41 dX8_come_40 rfl (by decide) ?_
      refine V_istore 43 dX8_come_41 rfl (by decide) ?_
      refine V_at (lp_X8_come hSg hF.1 (by have := hF.2.1; omega) (fun q => absurd (by rw [← hF.2.2.1]; exact q) hk) (fun q => ?_) ng 0 (by omega) (fun k hk => absurd hk (Nat.not_lt_zero k))) ⟨rfl, rfl, rfl, rfl, rfl, rfl, rfl, rfl, trivial⟩
      refine V_aload_n 86 dX8_come_85 rfl rfl ?_
      refine V_getiV 89 8 6 fl_X8_32 dX8_come_86 rfl rfl (by decide) rfl (by decide) hF.1 ?_
      refine V_sipush (v := 300) 92 dX8_come_89 rfl (by decide) ?_
      refine V_icmp_ne 98 95 dX8_come_92 rfl rfl (fun c_92 => ?_) (fun c_92 => ?_)
      · skip
        exact absurd (by rw [hng]; rfl) c_92
      · skip
        refine V_bipush (v := (-3)) 97 dX8_come_95 rfl (by decide) ?_
        refine V_iret dX8_come_97 rfl rfl ⟨_, rfl, ?_⟩ (by first | exact Nat.le_refl _ | decide | omega) (by first | exact Nat.le_refl _ | decide | omega)
        exact ⟨rfl, ng, hF⟩
    · skip
      grind
  · skip
    grind
/-- the key is put down -/
def m_put (g : qH) (ng : Nat) (key : Int64) (t mi : Int32) : qH := qs_i (qs_i (qs_i (qs_l g 38 0 ng key) 39 0 ng t) 40 0 ng mi) 33 0 6 (nI (ng + 1))
def m_add (g : qH) (c : Nat) (u : Int64) : qH := qs_l g 37 0 c (qg_l g 37 0 c + u)
theorem ct_X8_come_ok {na nk a t r p : Nat} {key : Int64} {u mi : Int32} (hS : SHR h) (hna : na ≤ 24) (ha : a < na) (hr : r < 4) (ht : t < 6) (hpp : p < 100) (ep : mi / 1000 = nI p) (et : qg_i h 34 0 a = nI t) (ek : qg_i h 33 0 6 = nI nk) (hnk : nk ≤ 300) (hm : mi ≤ qg_i h 33 0 0) (hl : qg_i h 33 0 0 - 500 ≤ mi) (hk : ¬ kn ((kl h 38 39 40 nk).filter (fun e => qg_i h 33 0 0 < e.2.2 + 1000)) key (nI t)) (hf : ((kl h 38 39 40 nk).filter (fun e => qg_i h 33 0 0 < e.2.2 + 1000)).length ≠ 300) (hc : qg_i h 53 0 t ≤ nI p) :
    qM yX8_come cX8_come 10 ((some .int)) 3 90 0 0 [.inr (.inr (some (33, 0))), .inr (.inl key), .inl (nI a), .inl (nI r), .inl u, .inl mi] h (pI fun x h' => x = 0 ∧ ∃ g ng, FG h nk g ng ∧ ng < 300 ∧ h' = m_add (m_put g ng key (nI t) mi) ((4 * a + r) * 100 + p) u.toInt64) := by
  refine qM.of (plainFor_of_name (by decide)) (Nat.le_of_ble_eq_true rfl) ?_
  refine V_iload 2 dX8_come_0 rfl rfl ?_
  refine V_aload_n 3 dX8_come_2 rfl rfl ?_
  refine V_geti 6 8 0 fl_X8_24 dX8_come_3 rfl rfl (by decide) rfl (by decide) ?_
  refine V_icmp_le 12 9 dX8_come_6 rfl rfl (fun c_6 => ?_) (fun c_6 => ?_)
  · skip
    refine V_iload 14 dX8_come_12 rfl rfl ?_
    refine V_aload_n 15 dX8_come_14 rfl rfl ?_
    refine V_geti 18 8 0 fl_X8_24 dX8_come_15 rfl rfl (by decide) rfl (by decide) ?_
    refine V_sipush (v := 500) 21 dX8_come_18 rfl (by decide) ?_
    refine V_isub 22 dX8_come_21 rfl ?_
    refine V_icmp_ge 28 25 dX8_come_22 rfl rfl (fun c_22 => ?_) (fun c_22 => ?_)
    · skip
      refine V_aload_n 29 dX8_come_28 rfl rfl ?_
      refine V_cV0v 32 (ct_X8_forget hS ek hnk) cs_X8_45 rfl rfl (by decide) dX8_come_29 rfl ⟨Nat.le_of_ble_eq_true rfl, Nat.le_of_ble_eq_true rfl⟩ (Nat.le_of_ble_eq_true rfl) ⟨Nat.le_of_ble_eq_true rfl, Nat.le_of_ble_eq_true rfl⟩ (fun h' hx hle => ?_)
      obtain ⟨ng, hF⟩ := hx
      have hSg : SHR h' := fun k => by rw [hF.2.2.2.1.2]; exact hS k
      have hng : ng ≠ 300 := by rw [← kl_len h' 38 39 40 ng, hF.2.2.1]; exact hf
      have hng2 : ng < 300 := by have := hF.2.1; omega
      have ecl : qg_i h' 53 0 t = qg_i h 53 0 t := (hF.2.2.2.2 53 0 t (by omega)).1
      refine V_aload_n 33 dX8_come_32 rfl rfl ?_
      refine V_getR 36 8 2 fl_X8_14 dX8_come_33 rfl rfl (by decide) (Or.inr ⟨_, rfl⟩) (by decide) (sr_2 hSg) ?_
      refine V_iload_n 37 dX8_come_36 rfl rfl ?_
      refine V_ialdV 38 (_) dX8_come_37 rfl rfl (by decide) rfl (show _ < 24 by omega) (by decide) (show _ = nI t by rw [(hF.2.2.2.2 34 0 a (by omega)).1]; exact et) ?_
      refine V_istore 40 dX8_come_38 rfl (by decide) ?_
      refine V_iconst (v := 0) 41 dX8_come_40 rfl (by decide) ?_
      refine V_istore 43 dX8_come_41 rfl (by decide) ?_
      refine V_at (lp_X8_come hSg hF.1 (by omega) (fun q => absurd (by rw [← hF.2.2.1]; exact q) hk) (fun q => ?_) ng 0 (by omega) (fun k hk => absurd hk (Nat.not_lt_zero k))) ⟨rfl, rfl, rfl, rfl, rfl, rfl, rfl, rfl, trivial⟩
      refine V_aload_n 86 dX8_come_85 rfl rfl ?_
      refine V_getiV 89 8 6 fl_X8_32 dX8_come_86 rfl rfl (by decide) rfl (by decide) hF.1 ?_
      refine V_sipush (v := 300) 92 dX8_come_89 rfl (by decide) ?_
      refine V_icmp_ne 98 95 dX8_come_92 rfl rfl (fun c_92 => ?_) (fun c_92 => ?_)
      · skip
        refine V_aload_n 99 dX8_come_98 rfl rfl ?_
        refine V_getR 102 8 7 fl_X8_38 dX8_come_99 rfl rfl (by decide) (Or.inr ⟨_, rfl⟩) (by decide) (sr_7 hSg) ?_
        refine V_aload_n 103 dX8_come_102 rfl rfl ?_
        refine V_getiV 106 8 6 fl_X8_32 dX8_come_103 rfl rfl (by decide) rfl (by decide) hF.1 ?_
        refine V_lload_n 107 dX8_come_106 rfl rfl ?_
        refine V_lastN 108 (_) dX8_come_107 rfl rfl (by decide) rfl (show _ < 300 by omega) (by decide) ?_
        refine V_aload_n 109 dX8_come_108 rfl rfl ?_
        refine V_getR 112 8 8 fl_X8_42 dX8_come_109 rfl rfl (by decide) (Or.inr ⟨_, rfl⟩) (by decide) (sr_8 hSg) ?_
        refine V_aload_n 113 dX8_come_112 rfl rfl ?_
        refine V_getiV 116 8 6 fl_X8_32 dX8_come_113 rfl rfl (by decide) rfl (by decide) hF.1 ?_
        refine V_iload 118 dX8_come_116 rfl rfl ?_
        refine V_iastN 119 (_) dX8_come_118 rfl rfl (by decide) rfl (show _ < 300 by omega) (by decide) ?_
        refine V_aload_n 120 dX8_come_119 rfl rfl ?_
        refine V_getR 123 8 9 fl_X8_35 dX8_come_120 rfl rfl (by decide) (Or.inr ⟨_, rfl⟩) (by decide) (sr_9 hSg) ?_
        refine V_aload_n 124 dX8_come_123 rfl rfl ?_
        refine V_getiV 127 8 6 fl_X8_32 dX8_come_124 rfl rfl (by decide) rfl (by decide) hF.1 ?_
        refine V_iload 129 dX8_come_127 rfl rfl ?_
        refine V_iastN 130 (_) dX8_come_129 rfl rfl (by decide) rfl (show _ < 300 by omega) (by decide) ?_
        refine V_aload_n 131 dX8_come_130 rfl rfl ?_
        refine V_dup 132 dX8_come_131 rfl ?_
        refine V_getiV 135 8 6 fl_X8_32 dX8_come_132 rfl rfl (by decide) rfl (by decide) hF.1 ?_
        refine V_iconst (v := 1) 136 dX8_come_135 rfl (by decide) ?_
        refine V_iadd 137 dX8_come_136 rfl ?_
        rw [nI_1]
        refine V_puti 140 8 6 fl_X8_32 dX8_come_137 rfl rfl (by decide) rfl (by decide) (Or.inl rfl) ?_
        refine V_iload 142 dX8_come_140 rfl rfl ?_
        refine V_sipush (v := 1000) 145 dX8_come_142 rfl (by decide) ?_
        refine V_idiv 146 dX8_come_145 rfl (by decide) ?_
        rw [ep]
        refine V_istore 148 dX8_come_146 rfl (by decide) ?_
        refine V_iload 150 dX8_come_148 rfl rfl ?_
        refine V_aload_n 151 dX8_come_150 rfl rfl ?_
        refine V_getR 154 8 23 fl_X8_49 dX8_come_151 rfl rfl (by decide) (Or.inr ⟨_, rfl⟩) (by decide) (sr_23 hSg) ?_
        refine V_iload 156 dX8_come_154 rfl rfl ?_
        refine V_ialdV 157 (_) dX8_come_156 rfl rfl (by decide) rfl (show _ < 6 by omega) (by decide) ecl ?_
        refine V_icmp_ge 164 160 dX8_come_157 rfl rfl (fun c_157 => ?_) (fun c_157 => ?_)
        · skip
          refine V_iconst (v := 0) 165 dX8_come_164 rfl (by decide) ?_
          refine V_istore 167 dX8_come_165 rfl (by decide) ?_
          refine V_iload 169 dX8_come_167 rfl rfl ?_
          refine V_if_eq 184 172 dX8_come_169 rfl rfl (fun c_169 => ?_) (fun c_169 => ?_)
          · skip
            refine V_aload_n 185 dX8_come_184 rfl rfl ?_
            refine V_getR 188 8 5 fl_X8_56 dX8_come_185 rfl rfl (by decide) (Or.inr ⟨_, rfl⟩) (by decide) (sr_5 hSg) ?_
            refine V_iload_n 189 dX8_come_188 rfl rfl ?_
            refine V_iload 191 dX8_come_189 rfl rfl ?_
            refine V_iload 193 dX8_come_191 rfl rfl ?_
            refine V_cS3i 196 (ct_X8_cell _ _ _ _) cs_X8_59 dX8_come_193 rfl ⟨Nat.le_of_ble_eq_true rfl, Nat.le_of_ble_eq_true rfl⟩ (Nat.le_of_ble_eq_true rfl) ⟨Nat.le_of_ble_eq_true rfl, Nat.le_of_ble_eq_true rfl⟩ (fun x h' hx hle => ?_)
            obtain ⟨rfl, rfl⟩ := hx
            refine V_dup2 197 dX8_come_196 rfl ?_
            refine V_laldN 198 (_) dX8_come_197 rfl rfl (by decide) rfl (show _ < 9600 by omega) (by decide) ?_
            refine V_iload 200 dX8_come_198 rfl rfl ?_
            refine V_i2l 201 dX8_come_200 rfl ?_
            refine V_ladd 202 dX8_come_201 rfl ?_
            refine V_lastN 203 (_) dX8_come_202 rfl rfl (by decide) rfl (show _ < 9600 by omega) (by decide) ?_
            refine V_iload 205 dX8_come_203 rfl rfl ?_
            refine V_if_eq 212 208 dX8_come_205 rfl rfl (fun c_205 => ?_) (fun c_205 => ?_)
            · skip
              refine V_iconst (v := 0) 213 dX8_come_212 rfl (by decide) ?_
              refine V_iret dX8_come_213 rfl rfl ⟨_, rfl, ?_⟩ (by first | exact Nat.le_refl _ | decide | omega) (by first | exact Nat.le_refl _ | decide | omega)
              exact ⟨rfl, _, ng, hF, hng2, rfl⟩
            · skip
              exact absurd rfl c_205
          · skip
            exact absurd rfl c_169
        · skip
          exact absurd hc c_157
      · skip
        exact absurd (show nI ng = nI 300 from c_92) (fun q => by have := (nI_eq (by omega) (by omega)).mp q; omega)
    · skip
      grind
  · skip
    grind
theorem m_qty_congr {g : qH} {na r p : Nat} {t : Int32} (h1 : ∀ a, a < na → qg_i g 34 0 a = qg_i h 34 0 a) (h2 : ∀ k, qg_l g 37 0 k = qg_l h 37 0 k) : m_qty g na t r p = m_qty h na t r p := by
  unfold m_qty
  apply sm_l_congr
  intro a ha
  rw [h1 a ha, h2]
theorem m_cost_congr {g : qH} {p k : Nat} {n : Int64} (h2 : ∀ k, qg_l g 46 0 k = qg_l h 46 0 k) : m_cost g p k n = m_cost h p k n := by
  unfold m_cost
  simp only [h2]
theorem ct_X8_come_adj {na nk a t r p i0 k : Nat} {key : Int64} {u mi : Int32} (hS : SHR h) (ea : qg_i h 33 0 1 = nI na) (hna : na ≤ 24) (ha : a < na) (hr : r < 4) (ht : t < 6) (hpp : p < 100) (ep : mi / 1000 = nI p) (et : qg_i h 34 0 a = nI t) (ek : qg_i h 33 0 6 = nI nk) (hnk : nk ≤ 300) (hm : mi ≤ qg_i h 33 0 0) (hl : qg_i h 33 0 0 - 500 ≤ mi) (hk : ¬ kn ((kl h 38 39 40 nk).filter (fun e => qg_i h 33 0 0 < e.2.2 + 1000)) key (nI t)) (hf : ((kl h 38 39 40 nk).filter (fun e => qg_i h 33 0 0 < e.2.2 + 1000)).length ≠ 300) (hc : nI p < qg_i h 53 0 t)
    (hi0 : i0 < 60) (h1 : qg_i h 57 0 i0 = nI t ∧ qg_i h 58 0 i0 = nI p) (h2 : ∀ i, i < i0 → ¬ (qg_i h 57 0 i = nI t ∧ qg_i h 58 0 i = nI p)) (hk5 : k < 5) (hz : ¬ qg_l h 46 0 (18 * (24 + 4 * i0 + r) + 1) = 0) (he : (qg_l h 46 0 (18 * (24 + 4 * i0 + r) + 2)).toInt32 = nI (k + 1)) :
    qM yX8_come cX8_come 10 ((some .int)) 3 90 0 0 [.inr (.inr (some (33, 0))), .inr (.inl key), .inl (nI a), .inl (nI r), .inl u, .inl mi] h (pI fun x h' => x = 1 ∧ ∃ g ng, FG h nk g ng ∧ ng < 300 ∧ h' = m_add (m_adj (m_put g ng key (nI t) mi) (4 * t + r) u.toInt64 (m_cost h (18 * (24 + 4 * i0 + r)) k (m_qty h na (nI t) r p + u.toInt64) - m_cost h (18 * (24 + 4 * i0 + r)) k (m_qty h na (nI t) r p))) ((4 * a + r) * 100 + p) u.toInt64) := by
  refine qM.of (plainFor_of_name (by decide)) (Nat.le_of_ble_eq_true rfl) ?_
  refine V_iload 2 dX8_come_0 rfl rfl ?_
  refine V_aload_n 3 dX8_come_2 rfl rfl ?_
  refine V_geti 6 8 0 fl_X8_24 dX8_come_3 rfl rfl (by decide) rfl (by decide) ?_
  refine V_icmp_le 12 9 dX8_come_6 rfl rfl (fun c_6 => ?_) (fun c_6 => ?_)
  · skip
    refine V_iload 14 dX8_come_12 rfl rfl ?_
    refine V_aload_n 15 dX8_come_14 rfl rfl ?_
    refine V_geti 18 8 0 fl_X8_24 dX8_come_15 rfl rfl (by decide) rfl (by decide) ?_
    refine V_sipush (v := 500) 21 dX8_come_18 rfl (by decide) ?_
    refine V_isub 22 dX8_come_21 rfl ?_
    refine V_icmp_ge 28 25 dX8_come_22 rfl rfl (fun c_22 => ?_) (fun c_22 => ?_)
    · skip
      refine V_aload_n 29 dX8_come_28 rfl rfl ?_
      refine V_cV0v 32 (ct_X8_forget hS ek hnk) cs_X8_45 rfl rfl (by decide) dX8_come_29 rfl ⟨Nat.le_of_ble_eq_true rfl, Nat.le_of_ble_eq_true rfl⟩ (Nat.le_of_ble_eq_true rfl) ⟨Nat.le_of_ble_eq_true rfl, Nat.le_of_ble_eq_true rfl⟩ (fun h' hx hle => ?_)
      obtain ⟨ng, hF⟩ := hx
      have hSg : SHR h' := fun k => by rw [hF.2.2.2.1.2]; exact hS k
      have hng : ng ≠ 300 := by rw [← kl_len h' 38 39 40 ng, hF.2.2.1]; exact hf
      have hng2 : ng < 300 := by have := hF.2.1; omega
      have ecl : qg_i h' 53 0 t = qg_i h 53 0 t := (hF.2.2.2.2 53 0 t (by omega)).1
      have f1 : qg_i h' 33 0 1 = nI na := by rw [(hF.2.2.2.2 33 0 1 (by omega)).1]; exact ea
      have f57 : ∀ i, qg_i h' 57 0 i = qg_i h 57 0 i := fun i => (hF.2.2.2.2 57 0 i (by omega)).1
      have f58 : ∀ i, qg_i h' 58 0 i = qg_i h 58 0 i := fun i => (hF.2.2.2.2 58 0 i (by omega)).1
      have f46 : ∀ i, qg_l h' 46 0 i = qg_l h 46 0 i := fun i => (hF.2.2.2.2 46 0 i (by omega)).2
      have f34 : ∀ i, qg_i h' 34 0 i = qg_i h 34 0 i := fun i => (hF.2.2.2.2 34 0 i (by omega)).1
      have f37 : ∀ i, qg_l h' 37 0 i = qg_l h 37 0 i := fun i => (hF.2.2.2.2 37 0 i (by omega)).2
      refine V_aload_n 33 dX8_come_32 rfl rfl ?_
      refine V_getR 36 8 2 fl_X8_14 dX8_come_33 rfl rfl (by decide) (Or.inr ⟨_, rfl⟩) (by decide) (sr_2 hSg) ?_
      refine V_iload_n 37 dX8_come_36 rfl rfl ?_
      refine V_ialdV 38 (_) dX8_come_37 rfl rfl (by decide) rfl (show _ < 24 by omega) (by decide) (show _ = nI t by rw [f34]; exact et) ?_
      refine V_istore 40 dX8_come_38 rfl (by decide) ?_
      refine V_iconst (v := 0) 41 dX8_come_40 rfl (by decide) ?_
      refine V_istore 43 dX8_come_41 rfl (by decide) ?_
      refine V_at (lp_X8_come hSg hF.1 (by omega) (fun q => absurd (by rw [← hF.2.2.1]; exact q) hk) (fun q => ?_) ng 0 (by omega) (fun k hk => absurd hk (Nat.not_lt_zero k))) ⟨rfl, rfl, rfl, rfl, rfl, rfl, rfl, rfl, trivial⟩
      refine V_aload_n 86 dX8_come_85 rfl rfl ?_
      refine V_getiV 89 8 6 fl_X8_32 dX8_come_86 rfl rfl (by decide) rfl (by decide) hF.1 ?_
      refine V_sipush (v := 300) 92 dX8_come_89 rfl (by decide) ?_
      refine V_icmp_ne 98 95 dX8_come_92 rfl rfl (fun c_92 => ?_) (fun c_92 => ?_)
      · skip
        refine V_aload_n 99 dX8_come_98 rfl rfl ?_
        refine V_getR 102 8 7 fl_X8_38 dX8_come_99 rfl rfl (by decide) (Or.inr ⟨_, rfl⟩) (by decide) (sr_7 hSg) ?_
        refine V_aload_n 103 dX8_come_102 rfl rfl ?_
        refine V_getiV 106 8 6 fl_X8_32 dX8_come_103 rfl rfl (by decide) rfl (by decide) hF.1 ?_
        refine V_lload_n 107 dX8_come_106 rfl rfl ?_
        refine V_lastN 108 (_) dX8_come_107 rfl rfl (by decide) rfl (show _ < 300 by omega) (by decide) ?_
        refine V_aload_n 109 dX8_come_108 rfl rfl ?_
        refine V_getR 112 8 8 fl_X8_42 dX8_come_109 rfl rfl (by decide) (Or.inr ⟨_, rfl⟩) (by decide) (sr_8 hSg) ?_
        refine V_aload_n 113 dX8_come_112 rfl rfl ?_
        refine V_getiV 116 8 6 fl_X8_32 dX8_come_113 rfl rfl (by decide) rfl (by decide) hF.1 ?_
        refine V_iload 118 dX8_come_116 rfl rfl ?_
        refine V_iastN 119 (_) dX8_come_118 rfl rfl (by decide) rfl (show _ < 300 by omega) (by decide) ?_
        refine V_aload_n 120 dX8_come_119 rfl rfl ?_
        refine V_getR 123 8 9 fl_X8_35 dX8_come_120 rfl rfl (by decide) (Or.inr ⟨_, rfl⟩) (by decide) (sr_9 hSg) ?_
        refine V_aload_n 124 dX8_come_123 rfl rfl ?_
        refine V_getiV 127 8 6 fl_X8_32 dX8_come_124 rfl rfl (by decide) rfl (by decide) hF.1 ?_
        refine V_iload 129 dX8_come_127 rfl rfl ?_
        refine V_iastN 130 (_) dX8_come_129 rfl rfl (by decide) rfl (show _ < 300 by omega) (by decide) ?_
        refine V_aload_n 131 dX8_come_130 rfl rfl ?_
        refine V_dup 132 dX8_come_131 rfl ?_
        refine V_getiV 135 8 6 fl_X8_32 dX8_come_132 rfl rfl (by decide) rfl (by decide) hF.1 ?_
        refine V_iconst (v := 1) 136 dX8_come_135 rfl (by decide) ?_
        refine V_iadd 137 dX8_come_136 rfl ?_
        rw [nI_1]
        refine V_puti 140 8 6 fl_X8_32 dX8_come_137 rfl rfl (by decide) rfl (by decide) (Or.inl rfl) ?_
        refine V_iload 142 dX8_come_140 rfl rfl ?_
        refine V_sipush (v := 1000) 145 dX8_come_142 rfl (by decide) ?_
        refine V_idiv 146 dX8_come_145 rfl (by decide) ?_
        rw [ep]
        refine V_istore 148 dX8_come_146 rfl (by decide) ?_
        refine V_iload 150 dX8_come_148 rfl rfl ?_
        refine V_aload_n 151 dX8_come_150 rfl rfl ?_
        refine V_getR 154 8 23 fl_X8_49 dX8_come_151 rfl rfl (by decide) (Or.inr ⟨_, rfl⟩) (by decide) (sr_23 hSg) ?_
        refine V_iload 156 dX8_come_154 rfl rfl ?_
        refine V_ialdV 157 (_) dX8_come_156 rfl rfl (by decide) rfl (show _ < 6 by omega) (by decide) ecl ?_
        refine V_icmp_ge 164 160 dX8_come_157 rfl rfl (fun c_157 => ?_) (fun c_157 => ?_)
        · skip
          exact absurd c_157 (by grind)
        · skip
          refine V_iconst (v := 1) 161 dX8_come_160 rfl (by decide) ?_
          refine V_goto 165 dX8_come_161 rfl ?_
          refine V_istore 167 dX8_come_165 rfl (by decide) ?_
          refine V_iload 169 dX8_come_167 rfl rfl ?_
          refine V_if_eq 184 172 dX8_come_169 rfl rfl (fun c_169 => ?_) (fun c_169 => ?_)
          · skip
            exact absurd c_169 (by decide)
          · skip
            refine V_aload_n 173 dX8_come_172 rfl rfl ?_
            refine V_iload 175 dX8_come_173 rfl rfl ?_
            refine V_iload 177 dX8_come_175 rfl rfl ?_
            refine V_iload 179 dX8_come_177 rfl rfl ?_
            refine V_iload 181 dX8_come_179 rfl rfl ?_
            refine V_cV4v 184 (ct_X8_adjust (i0 := i0) (k := k) hSg f1 hna ht hr hpp hi0 ⟨(f57 i0).trans h1.1, (f58 i0).trans h1.2⟩ (fun i hi q => h2 i hi ⟨(f57 i).symm.trans q.1, (f58 i).symm.trans q.2⟩) hk5 (fun q => hz ((f46 _).symm.trans q)) ((congrArg Int64.toInt32 (f46 _)).trans he)) cs_X8_52 rfl rfl (by decide) dX8_come_181 rfl ⟨Nat.le_of_ble_eq_true rfl, Nat.le_of_ble_eq_true rfl⟩ (Nat.le_of_ble_eq_true rfl) ⟨Nat.le_of_ble_eq_true rfl, Nat.le_of_ble_eq_true rfl⟩ (fun h' hx hle => ?_)
            obtain rfl := hx
            refine V_aload_n 185 dX8_come_184 rfl rfl ?_
            refine V_getR 188 8 5 fl_X8_56 dX8_come_185 rfl rfl (by decide) (Or.inr ⟨_, rfl⟩) (by decide) (sr_5 hSg) ?_
            refine V_iload_n 189 dX8_come_188 rfl rfl ?_
            refine V_iload 191 dX8_come_189 rfl rfl ?_
            refine V_iload 193 dX8_come_191 rfl rfl ?_
            refine V_cS3i 196 (ct_X8_cell _ _ _ _) cs_X8_59 dX8_come_193 rfl ⟨Nat.le_of_ble_eq_true rfl, Nat.le_of_ble_eq_true rfl⟩ (Nat.le_of_ble_eq_true rfl) ⟨Nat.le_of_ble_eq_true rfl, Nat.le_of_ble_eq_true rfl⟩ (fun x h' hx hle => ?_)
            obtain ⟨rfl, rfl⟩ := hx
            refine V_dup2 197 dX8_come_196 rfl ?_
            refine V_laldN 198 (_) dX8_come_197 rfl rfl (by decide) rfl (show _ < 9600 by omega) (by decide) ?_
            refine V_iload 200 dX8_come_198 rfl rfl ?_
            refine V_i2l 201 dX8_come_200 rfl ?_
            refine V_ladd 202 dX8_come_201 rfl ?_
            refine V_lastN 203 (_) dX8_come_202 rfl rfl (by decide) rfl (show _ < 9600 by omega) (by decide) ?_
            refine V_iload 205 dX8_come_203 rfl rfl ?_
            refine V_if_eq 212 208 dX8_come_205 rfl rfl (fun c_205 => ?_) (fun c_205 => ?_)
            · skip
              exact absurd c_205 (by decide)
            · skip
              refine V_iconst (v := 1) 209 dX8_come_208 rfl (by decide) ?_
              refine V_goto 213 dX8_come_209 rfl ?_
              refine V_iret dX8_come_213 rfl rfl ⟨_, rfl, ?_⟩ (by first | exact Nat.le_refl _ | decide | omega) (by first | exact Nat.le_refl _ | decide | omega)
              refine ⟨rfl, _, ng, hF, hng2, ?_⟩
              rw [← m_qty_congr (h := h) (g := m_put _ ng key (nI t) mi) (fun i _ => f34 i) f37, ← m_cost_congr (h := h) (g := m_put _ ng key (nI t) mi) f46, ← m_cost_congr (h := h) (g := m_put _ ng key (nI t) mi) f46]
              rfl
      · skip
        exact absurd (show nI ng = nI 300 from c_92) (fun q => by have := (nI_eq (by omega) (by omega)).mp q; omega)
    · skip
      grind
  · skip
    grind
theorem ct_X8_event_bad {key : Int64} {a r u mi : Int32} (hbad : ¬ ((0 ≤ a ∧ a < qg_i h 33 0 1) ∧ (0 ≤ r ∧ r < 4) ∧ (1 ≤ u ∧ u ≤ 1000000) ∧ 0 ≤ mi)) : qM yX8_event cX8_event 7 ((some .int)) 4 119 0 0 [.inr (.inr (some (33, 0))), .inr (.inl key), .inl a, .inl r, .inl u, .inl mi] h (pI fun x h' => x = -2 ∧ h' = h) := by
  refine qM.of (plainFor_of_name (by decide)) (Nat.le_of_ble_eq_true rfl) ?_
  refine V_aload_n 1 dX8_event_0 rfl rfl ?_
  refine V_iload_n 2 dX8_event_1 rfl rfl ?_
  refine V_cV1i 5 (ct_X8_isAccount _ _) cs_X8_11 rfl rfl (by decide) dX8_event_2 rfl ⟨Nat.le_of_ble_eq_true rfl, Nat.le_of_ble_eq_true rfl⟩ (Nat.le_of_ble_eq_true rfl) ⟨Nat.le_of_ble_eq_true rfl, Nat.le_of_ble_eq_true rfl⟩ (fun x h' hx hle => ?_)
  obtain ⟨rfl, rfl⟩ := hx
  refine V_if_eq 29 8 dX8_event_5 rfl rfl (fun c_5 => ?_) (fun c_5 => ?_)
  · skip
    refine V_bipush (v := (-2)) 31 dX8_event_29 rfl (by decide) ?_
    refine V_iret dX8_event_31 rfl rfl ⟨_, rfl, ?_⟩ (by first | exact Nat.le_refl _ | decide | omega) (by first | exact Nat.le_refl _ | decide | omega)
    exact ⟨rfl, rfl⟩
  · skip
    refine V_iload 10 dX8_event_8 rfl rfl ?_
    refine V_cS1i 13 (ct_X8_isResource _ _) cs_X8_28 dX8_event_10 rfl ⟨Nat.le_of_ble_eq_true rfl, Nat.le_of_ble_eq_true rfl⟩ (Nat.le_of_ble_eq_true rfl) ⟨Nat.le_of_ble_eq_true rfl, Nat.le_of_ble_eq_true rfl⟩ (fun x h' hx hle => ?_)
    obtain ⟨rfl, rfl⟩ := hx
    refine V_if_eq 29 16 dX8_event_13 rfl rfl (fun c_13 => ?_) (fun c_13 => ?_)
    · skip
      refine V_bipush (v := (-2)) 31 dX8_event_29 rfl (by decide) ?_
      refine V_iret dX8_event_31 rfl rfl ⟨_, rfl, ?_⟩ (by first | exact Nat.le_refl _ | decide | omega) (by first | exact Nat.le_refl _ | decide | omega)
      exact ⟨rfl, rfl⟩
    · skip
      refine V_iload 18 dX8_event_16 rfl rfl ?_
      refine V_cS1i 21 (ct_X8_areUnits _ _) cs_X8_64 dX8_event_18 rfl ⟨Nat.le_of_ble_eq_true rfl, Nat.le_of_ble_eq_true rfl⟩ (Nat.le_of_ble_eq_true rfl) ⟨Nat.le_of_ble_eq_true rfl, Nat.le_of_ble_eq_true rfl⟩ (fun x h' hx hle => ?_)
      obtain ⟨rfl, rfl⟩ := hx
      refine V_if_eq 29 24 dX8_event_21 rfl rfl (fun c_21 => ?_) (fun c_21 => ?_)
      · skip
        refine V_bipush (v := (-2)) 31 dX8_event_29 rfl (by decide) ?_
        refine V_iret dX8_event_31 rfl rfl ⟨_, rfl, ?_⟩ (by first | exact Nat.le_refl _ | decide | omega) (by first | exact Nat.le_refl _ | decide | omega)
        exact ⟨rfl, rfl⟩
      · skip
        refine V_iload 26 dX8_event_24 rfl rfl ?_
        refine V_if_ge 32 29 dX8_event_26 rfl rfl (fun c_26 => ?_) (fun c_26 => ?_)
        · skip
          exfalso; grind
        · skip
          refine V_bipush (v := (-2)) 31 dX8_event_29 rfl (by decide) ?_
          refine V_iret dX8_event_31 rfl rfl ⟨_, rfl, ?_⟩ (by first | exact Nat.le_refl _ | decide | omega) (by first | exact Nat.le_refl _ | decide | omega)
          exact ⟨rfl, rfl⟩
/-- an event that isn't refused as bad is come() -/
theorem ct_X8_event_ok {na b r : Nat} {key : Int64} {u mi : Int32} {f : Int32 → qH → Prop} (ea : qg_i h 33 0 1 = nI na) (hna : na ≤ 24) (hb : b < na) (hr : r < 4) (hu : 1 ≤ u ∧ u ≤ 1000000) (hmi : 0 ≤ mi) (M : qM yX8_come cX8_come 10 ((some .int)) 3 90 0 0 [.inr (.inr (some (33, 0))), .inr (.inl key), .inl (nI b), .inl (nI r), .inl u, .inl mi] h (pI f)) : qM yX8_event cX8_event 7 ((some .int)) 4 119 0 0 [.inr (.inr (some (33, 0))), .inr (.inl key), .inl (nI b), .inl (nI r), .inl u, .inl mi] h (pI f) := by
  refine qM.of (plainFor_of_name (by decide)) (Nat.le_of_ble_eq_true rfl) ?_
  refine V_aload_n 1 dX8_event_0 rfl rfl ?_
  refine V_iload_n 2 dX8_event_1 rfl rfl ?_
  refine V_cV1i 5 (ct_isAcc_ok ea hna hb) cs_X8_11 rfl rfl (by decide) dX8_event_2 rfl ⟨Nat.le_of_ble_eq_true rfl, Nat.le_of_ble_eq_true rfl⟩ (Nat.le_of_ble_eq_true rfl) ⟨Nat.le_of_ble_eq_true rfl, Nat.le_of_ble_eq_true rfl⟩ (fun x h' hx hle => ?_)
  obtain ⟨rfl, rfl⟩ := hx
  refine V_if_eq 29 8 dX8_event_5 rfl rfl (fun c_5 => ?_) (fun c_5 => ?_)
  · skip
    exact absurd c_5 (by decide)
  · skip
    refine V_iload 10 dX8_event_8 rfl rfl ?_
    refine V_cS1i 13 (ct_isRes_ok hr) cs_X8_28 dX8_event_10 rfl ⟨Nat.le_of_ble_eq_true rfl, Nat.le_of_ble_eq_true rfl⟩ (Nat.le_of_ble_eq_true rfl) ⟨Nat.le_of_ble_eq_true rfl, Nat.le_of_ble_eq_true rfl⟩ (fun x h' hx hle => ?_)
    obtain ⟨rfl, rfl⟩ := hx
    refine V_if_eq 29 16 dX8_event_13 rfl rfl (fun c_13 => ?_) (fun c_13 => ?_)
    · skip
      exact absurd c_13 (by decide)
    · skip
      refine V_iload 18 dX8_event_16 rfl rfl ?_
      refine V_cS1i 21 (ct_areUn_ok hu) cs_X8_64 dX8_event_18 rfl ⟨Nat.le_of_ble_eq_true rfl, Nat.le_of_ble_eq_true rfl⟩ (Nat.le_of_ble_eq_true rfl) ⟨Nat.le_of_ble_eq_true rfl, Nat.le_of_ble_eq_true rfl⟩ (fun x h' hx hle => ?_)
      obtain ⟨rfl, rfl⟩ := hx
      refine V_if_eq 29 24 dX8_event_21 rfl rfl (fun c_21 => ?_) (fun c_21 => ?_)
      · skip
        exact absurd c_21 (by decide)
      · skip
        refine V_iload 26 dX8_event_24 rfl rfl ?_
        refine V_if_ge 32 29 dX8_event_26 rfl rfl (fun c_26 => ?_) (fun c_26 => ?_)
        · skip
          refine V_aload_n 33 dX8_event_32 rfl rfl ?_
          refine V_lload_n 34 dX8_event_33 rfl rfl ?_
          refine V_iload_n 35 dX8_event_34 rfl rfl ?_
          refine V_iload 37 dX8_event_35 rfl rfl ?_
          refine V_iload 39 dX8_event_37 rfl rfl ?_
          refine V_iload 41 dX8_event_39 rfl rfl ?_
          refine V_cV5i 44 M cs_X8_67 rfl rfl (by decide) dX8_event_41 rfl ⟨Nat.le_of_ble_eq_true rfl, Nat.le_of_ble_eq_true rfl⟩ (Nat.le_of_ble_eq_true rfl) ⟨Nat.le_of_ble_eq_true rfl, Nat.le_of_ble_eq_true rfl⟩ (fun x h' hx hle => ?_)
          skip
          refine V_iret dX8_event_44 rfl rfl ⟨_, rfl, ?_⟩ (by first | exact Nat.le_refl _ | decide | omega) (by first | exact Nat.le_refl _ | decide | omega)
          exact hx
        · skip
          grind
theorem ct_X8_settle_bad {nh : Nat} {a u : Int32} {key : Int64} (hS : SHR h) (e : qg_i h 33 0 10 = nI nh) (hnh : nh ≤ 200) (ha : ¬ ∃ j, j < nh ∧ a = nI j ∧ m_open h j = true ∧ 0 ≤ u ∧ u ≤ qg_i h 43 0 j) : qM yX8_settle cX8_settle 6 ((some .int)) 4 119 0 0 [.inr (.inr (some (33, 0))), .inl a, .inl u, .inr (.inl key)] h (pI fun x h' => x = -2 ∧ h' = h) := by
  rcases pk_ix a (n := nh) (by omega) with z | z | ⟨j, hj, rfl⟩
  · refine qM.of (plainFor_of_name (by decide)) (Nat.le_of_ble_eq_true rfl) ?_
    refine V_aload_n 1 dX8_settle_0 rfl rfl ?_
    refine V_iload_n 2 dX8_settle_1 rfl rfl ?_
    refine V_cV1i 5 (ct_X8_isOpen_no hS e hnh (Or.inl z)) cs_X8_91 rfl rfl (by decide) dX8_settle_2 rfl ⟨Nat.le_of_ble_eq_true rfl, Nat.le_of_ble_eq_true rfl⟩ (Nat.le_of_ble_eq_true rfl) ⟨Nat.le_of_ble_eq_true rfl, Nat.le_of_ble_eq_true rfl⟩ (fun x h' hx hle => ?_)
    obtain ⟨rfl, rfl⟩ := hx
    refine V_if_eq 22 8 dX8_settle_5 rfl rfl (fun c_5 => ?_) (fun c_5 => ?_)
    · skip
      refine V_bipush (v := (-2)) 24 dX8_settle_22 rfl (by decide) ?_
      refine V_iret dX8_settle_24 rfl rfl ⟨_, rfl, ?_⟩ (by first | exact Nat.le_refl _ | decide | omega) (by first | exact Nat.le_refl _ | decide | omega)
      exact ⟨rfl, rfl⟩
    · skip
      exact absurd rfl c_5
  · refine qM.of (plainFor_of_name (by decide)) (Nat.le_of_ble_eq_true rfl) ?_
    refine V_aload_n 1 dX8_settle_0 rfl rfl ?_
    refine V_iload_n 2 dX8_settle_1 rfl rfl ?_
    refine V_cV1i 5 (ct_X8_isOpen_no hS e hnh (Or.inr z)) cs_X8_91 rfl rfl (by decide) dX8_settle_2 rfl ⟨Nat.le_of_ble_eq_true rfl, Nat.le_of_ble_eq_true rfl⟩ (Nat.le_of_ble_eq_true rfl) ⟨Nat.le_of_ble_eq_true rfl, Nat.le_of_ble_eq_true rfl⟩ (fun x h' hx hle => ?_)
    obtain ⟨rfl, rfl⟩ := hx
    refine V_if_eq 22 8 dX8_settle_5 rfl rfl (fun c_5 => ?_) (fun c_5 => ?_)
    · skip
      refine V_bipush (v := (-2)) 24 dX8_settle_22 rfl (by decide) ?_
      refine V_iret dX8_settle_24 rfl rfl ⟨_, rfl, ?_⟩ (by first | exact Nat.le_refl _ | decide | omega) (by first | exact Nat.le_refl _ | decide | omega)
      exact ⟨rfl, rfl⟩
    · skip
      exact absurd rfl c_5
  · refine qM.of (plainFor_of_name (by decide)) (Nat.le_of_ble_eq_true rfl) ?_
    refine V_aload_n 1 dX8_settle_0 rfl rfl ?_
    refine V_iload_n 2 dX8_settle_1 rfl rfl ?_
    refine V_cV1i 5 (ct_X8_isOpen hS e hnh hj) cs_X8_91 rfl rfl (by decide) dX8_settle_2 rfl ⟨Nat.le_of_ble_eq_true rfl, Nat.le_of_ble_eq_true rfl⟩ (Nat.le_of_ble_eq_true rfl) ⟨Nat.le_of_ble_eq_true rfl, Nat.le_of_ble_eq_true rfl⟩ (fun x h' hx hle => ?_)
    obtain ⟨rfl, rfl⟩ := hx
    refine V_if_eq 22 8 dX8_settle_5 rfl rfl (fun c_5 => ?_) (fun c_5 => ?_)
    · skip
      refine V_bipush (v := (-2)) 24 dX8_settle_22 rfl (by decide) ?_
      refine V_iret dX8_settle_24 rfl rfl ⟨_, rfl, ?_⟩ (by first | exact Nat.le_refl _ | decide | omega) (by first | exact Nat.le_refl _ | decide | omega)
      exact ⟨rfl, rfl⟩
    · skip
      refine V_iload_n 9 dX8_settle_8 rfl rfl ?_
      refine V_if_lt 22 12 dX8_settle_9 rfl rfl (fun c_9 => ?_) (fun c_9 => ?_)
      · skip
        refine V_bipush (v := (-2)) 24 dX8_settle_22 rfl (by decide) ?_
        refine V_iret dX8_settle_24 rfl rfl ⟨_, rfl, ?_⟩ (by first | exact Nat.le_refl _ | decide | omega) (by first | exact Nat.le_refl _ | decide | omega)
        exact ⟨rfl, rfl⟩
      · skip
        refine V_iload_n 13 dX8_settle_12 rfl rfl ?_
        refine V_aload_n 14 dX8_settle_13 rfl rfl ?_
        refine V_getR 17 8 13 fl_X8_104 dX8_settle_14 rfl rfl (by decide) (Or.inr ⟨_, rfl⟩) (by decide) (sr_13 hS) ?_
        refine V_iload_n 18 dX8_settle_17 rfl rfl ?_
        refine V_ialdN 19 (_) dX8_settle_18 rfl rfl (by decide) rfl (show _ < 200 by omega) (by decide) ?_
        refine V_icmp_le 25 22 dX8_settle_19 rfl rfl (fun c_19 => ?_) (fun c_19 => ?_)
        · skip
          exact absurd ⟨j, hj, rfl, by grind, by grind, by grind⟩ ha
        · skip
          refine V_bipush (v := (-2)) 24 dX8_settle_22 rfl (by decide) ?_
          refine V_iret dX8_settle_24 rfl rfl ⟨_, rfl, ?_⟩ (by first | exact Nat.le_refl _ | decide | omega) (by first | exact Nat.le_refl _ | decide | omega)
          exact ⟨rfl, rfl⟩
theorem ct_X8_settle_zero {nh j : Nat} {key : Int64} (hS : SHR h) (e : qg_i h 33 0 10 = nI nh) (hnh : nh ≤ 200) (hj : j < nh) (ho : m_open h j = true) (hu : 0 ≤ qg_i h 43 0 j) : qM yX8_settle cX8_settle 6 ((some .int)) 4 119 0 0 [.inr (.inr (some (33, 0))), .inl (nI j), .inl 0, .inr (.inl key)] h (pI fun x h' => x = 0 ∧ h' = qs_i h 45 0 j 1) := by
  refine qM.of (plainFor_of_name (by decide)) (Nat.le_of_ble_eq_true rfl) ?_
  refine V_aload_n 1 dX8_settle_0 rfl rfl ?_
  refine V_iload_n 2 dX8_settle_1 rfl rfl ?_
  refine V_cV1i 5 (ct_X8_isOpen hS e hnh hj) cs_X8_91 rfl rfl (by decide) dX8_settle_2 rfl ⟨Nat.le_of_ble_eq_true rfl, Nat.le_of_ble_eq_true rfl⟩ (Nat.le_of_ble_eq_true rfl) ⟨Nat.le_of_ble_eq_true rfl, Nat.le_of_ble_eq_true rfl⟩ (fun x h' hx hle => ?_)
  obtain ⟨rfl, rfl⟩ := hx
  refine V_if_eq 22 8 dX8_settle_5 rfl rfl (fun c_5 => ?_) (fun c_5 => ?_)
  · skip
    exact absurd (by rw [if_pos ho] at c_5; exact c_5) (by decide)
  · skip
    refine V_iload_n 9 dX8_settle_8 rfl rfl ?_
    refine V_if_lt 22 12 dX8_settle_9 rfl rfl (fun c_9 => ?_) (fun c_9 => ?_)
    · skip
      exact absurd c_9 (by decide)
    · skip
      refine V_iload_n 13 dX8_settle_12 rfl rfl ?_
      refine V_aload_n 14 dX8_settle_13 rfl rfl ?_
      refine V_getR 17 8 13 fl_X8_104 dX8_settle_14 rfl rfl (by decide) (Or.inr ⟨_, rfl⟩) (by decide) (sr_13 hS) ?_
      refine V_iload_n 18 dX8_settle_17 rfl rfl ?_
      refine V_ialdN 19 (_) dX8_settle_18 rfl rfl (by decide) rfl (show _ < 200 by omega) (by decide) ?_
      refine V_icmp_le 25 22 dX8_settle_19 rfl rfl (fun c_19 => ?_) (fun c_19 => ?_)
      · skip
        refine V_iload_n 26 dX8_settle_25 rfl rfl ?_
        refine V_if_ne 33 29 dX8_settle_26 rfl rfl (fun c_26 => ?_) (fun c_26 => ?_)
        · skip
          exact absurd rfl c_26
        · skip
          refine V_iconst (v := 0) 30 dX8_settle_29 rfl (by decide) ?_
          refine V_goto 55 dX8_settle_30 rfl ?_
          refine V_istore 57 dX8_settle_55 rfl (by decide) ?_
          refine V_aload_n 58 dX8_settle_57 rfl rfl ?_
          refine V_getR 61 8 15 fl_X8_84 dX8_settle_58 rfl rfl (by decide) (Or.inr ⟨_, rfl⟩) (by decide) (sr_15 hS) ?_
          refine V_iload_n 62 dX8_settle_61 rfl rfl ?_
          refine V_iload 64 dX8_settle_62 rfl rfl ?_
          refine V_if_lt 71 67 dX8_settle_64 rfl rfl (fun c_64 => ?_) (fun c_64 => ?_)
          · skip
            exact absurd c_64 (by decide)
          · skip
            refine V_iconst (v := 1) 68 dX8_settle_67 rfl (by decide) ?_
            refine V_goto 72 dX8_settle_68 rfl ?_
            refine V_zastN 73 (_) dX8_settle_72 rfl rfl (by decide) rfl (show _ < 200 by omega) (by decide) rfl ?_
            refine V_iload 75 dX8_settle_73 rfl rfl ?_
            refine V_iret dX8_settle_75 rfl rfl ⟨_, rfl, ?_⟩ (by first | exact Nat.le_refl _ | decide | omega) (by first | exact Nat.le_refl _ | decide | omega)
            exact ⟨rfl, rfl⟩
      · skip
        exact absurd hu c_19
theorem ct_X8_settle_ok {na nh j b r : Nat} {key : Int64} {u : Int32} {f : Int32 → qH → Prop} (hS : SHR h) (e : qg_i h 33 0 10 = nI nh) (hnh : nh ≤ 200) (hj : j < nh) (ho : m_open h j = true) (hu0 : 0 < u) (hu : u ≤ qg_i h 43 0 j) (eb : qg_i h 41 0 j = nI b) (er : qg_i h 42 0 j = nI r) (M : qM yX8_come cX8_come 10 ((some .int)) 3 90 0 0 [.inr (.inr (some (33, 0))), .inr (.inl key), .inl (nI b), .inl (nI r), .inl u, .inl (qg_i h 33 0 0)] h (pI f)) (hf : ∀ x g, f x g → qg_r g = qg_r h) : qM yX8_settle cX8_settle 6 ((some .int)) 4 119 0 0 [.inr (.inr (some (33, 0))), .inl (nI j), .inl u, .inr (.inl key)] h (pI fun x h' => ∃ g, f x g ∧ h' = qs_i g 45 0 j (if x < 0 then 0 else 1)) := by
  refine qM.of (plainFor_of_name (by decide)) (Nat.le_of_ble_eq_true rfl) ?_
  refine V_aload_n 1 dX8_settle_0 rfl rfl ?_
  refine V_iload_n 2 dX8_settle_1 rfl rfl ?_
  refine V_cV1i 5 (ct_X8_isOpen hS e hnh hj) cs_X8_91 rfl rfl (by decide) dX8_settle_2 rfl ⟨Nat.le_of_ble_eq_true rfl, Nat.le_of_ble_eq_true rfl⟩ (Nat.le_of_ble_eq_true rfl) ⟨Nat.le_of_ble_eq_true rfl, Nat.le_of_ble_eq_true rfl⟩ (fun x h' hx hle => ?_)
  obtain ⟨rfl, rfl⟩ := hx
  refine V_if_eq 22 8 dX8_settle_5 rfl rfl (fun c_5 => ?_) (fun c_5 => ?_)
  · skip
    exact absurd (by rw [if_pos ho] at c_5; exact c_5) (by decide)
  · skip
    refine V_iload_n 9 dX8_settle_8 rfl rfl ?_
    refine V_if_lt 22 12 dX8_settle_9 rfl rfl (fun c_9 => ?_) (fun c_9 => ?_)
    · skip
      grind
    · skip
      refine V_iload_n 13 dX8_settle_12 rfl rfl ?_
      refine V_aload_n 14 dX8_settle_13 rfl rfl ?_
      refine V_getR 17 8 13 fl_X8_104 dX8_settle_14 rfl rfl (by decide) (Or.inr ⟨_, rfl⟩) (by decide) (sr_13 hS) ?_
      refine V_iload_n 18 dX8_settle_17 rfl rfl ?_
      refine V_ialdN 19 (_) dX8_settle_18 rfl rfl (by decide) rfl (show _ < 200 by omega) (by decide) ?_
      refine V_icmp_le 25 22 dX8_settle_19 rfl rfl (fun c_19 => ?_) (fun c_19 => ?_)
      · skip
        refine V_iload_n 26 dX8_settle_25 rfl rfl ?_
        refine V_if_ne 33 29 dX8_settle_26 rfl rfl (fun c_26 => ?_) (fun c_26 => ?_)
        · skip
          refine V_aload_n 34 dX8_settle_33 rfl rfl ?_
          refine V_lload_n 35 dX8_settle_34 rfl rfl ?_
          refine V_aload_n 36 dX8_settle_35 rfl rfl ?_
          refine V_getR 39 8 11 fl_X8_101 dX8_settle_36 rfl rfl (by decide) (Or.inr ⟨_, rfl⟩) (by decide) (sr_11 hS) ?_
          refine V_iload_n 40 dX8_settle_39 rfl rfl ?_
          refine V_ialdV 41 (_) dX8_settle_40 rfl rfl (by decide) rfl (show _ < 200 by omega) (by decide) eb ?_
          refine V_aload_n 42 dX8_settle_41 rfl rfl ?_
          refine V_getR 45 8 12 fl_X8_98 dX8_settle_42 rfl rfl (by decide) (Or.inr ⟨_, rfl⟩) (by decide) (sr_12 hS) ?_
          refine V_iload_n 46 dX8_settle_45 rfl rfl ?_
          refine V_ialdV 47 (_) dX8_settle_46 rfl rfl (by decide) rfl (show _ < 200 by omega) (by decide) er ?_
          refine V_iload_n 48 dX8_settle_47 rfl rfl ?_
          refine V_aload_n 49 dX8_settle_48 rfl rfl ?_
          refine V_geti 52 8 0 fl_X8_24 dX8_settle_49 rfl rfl (by decide) rfl (by decide) ?_
          refine V_cV5i 55 M cs_X8_67 rfl rfl (by decide) dX8_settle_52 rfl ⟨Nat.le_of_ble_eq_true rfl, Nat.le_of_ble_eq_true rfl⟩ (Nat.le_of_ble_eq_true rfl) ⟨Nat.le_of_ble_eq_true rfl, Nat.le_of_ble_eq_true rfl⟩ (fun x h' hx hle => ?_)
          have hSg : SHR h' := fun k => by rw [hf _ _ hx]; exact hS k
          refine V_istore 57 dX8_settle_55 rfl (by decide) ?_
          refine V_aload_n 58 dX8_settle_57 rfl rfl ?_
          refine V_getR 61 8 15 fl_X8_84 dX8_settle_58 rfl rfl (by decide) (Or.inr ⟨_, rfl⟩) (by decide) (sr_15 hSg) ?_
          refine V_iload_n 62 dX8_settle_61 rfl rfl ?_
          refine V_iload 64 dX8_settle_62 rfl rfl ?_
          refine V_if_lt 71 67 dX8_settle_64 rfl rfl (fun c_64 => ?_) (fun c_64 => ?_)
          · skip
            refine V_iconst (v := 0) 72 dX8_settle_71 rfl (by decide) ?_
            refine V_zastN 73 (_) dX8_settle_72 rfl rfl (by decide) rfl (show _ < 200 by omega) (by decide) rfl ?_
            refine V_iload 75 dX8_settle_73 rfl rfl ?_
            refine V_iret dX8_settle_75 rfl rfl ⟨_, rfl, ?_⟩ (by first | exact Nat.le_refl _ | decide | omega) (by first | exact Nat.le_refl _ | decide | omega)
            exact ⟨_, hx, by first | rw [if_pos c_64] | rw [if_neg (by grind)]⟩
          · skip
            refine V_iconst (v := 1) 68 dX8_settle_67 rfl (by decide) ?_
            refine V_goto 72 dX8_settle_68 rfl ?_
            refine V_zastN 73 (_) dX8_settle_72 rfl rfl (by decide) rfl (show _ < 200 by omega) (by decide) rfl ?_
            refine V_iload 75 dX8_settle_73 rfl rfl ?_
            refine V_iret dX8_settle_75 rfl rfl ⟨_, rfl, ?_⟩ (by first | exact Nat.le_refl _ | decide | omega) (by first | exact Nat.le_refl _ | decide | omega)
            exact ⟨_, hx, by first | rw [if_pos c_64] | rw [if_neg (by grind)]⟩
        · skip
          exact absurd c_26 (by grind)
      · skip
        exact absurd hu c_19
def m_count (h : qH) (ni nh : Nat) (w : Int32) : Int32 := if w.toInt = 0 then qg_i h 33 0 0 else if w.toInt = 1 then qg_i h 33 0 1 else if w.toInt = 3 then sm_i (m_open1 h) nh else if w.toInt = 4 then qg_i h 33 0 27 else -2
theorem ct_X8_count {nh : Nat} {w : Int32} (hS : SHR h) (e : qg_i h 33 0 10 = nI nh) (hnh : nh ≤ 200) (hw : w.toInt ≠ 2) : qM yX8_count cX8_count 2 ((some .int)) 2 43 0 0 [.inr (.inr (some (33, 0))), .inl w] h (pI fun x h' => x = m_count h 0 nh w ∧ h' = h) := by
  refine qM.of (plainFor_of_name (by decide)) (Nat.le_of_ble_eq_true rfl) ?_
  refine V_iload_n 1 dX8_count_0 rfl rfl ?_
  by_cases z_1 : w.toInt < 0 ∨ 4 < w.toInt
  · refine V_tabOut 65 dX8_count_1 z_1 rfl ?_
    refine V_bipush (v := (-2)) 67 dX8_count_65 rfl (by decide) ?_
    refine V_iret dX8_count_67 rfl rfl ⟨_, rfl, ?_⟩ (by first | exact Nat.le_refl _ | decide | omega) (by first | exact Nat.le_refl _ | decide | omega)
    refine ⟨?_, rfl⟩
    unfold m_count
    rw [if_neg (by omega), if_neg (by omega), if_neg (by omega), if_neg (by omega)]
  · obtain ⟨j_1, hj_1, hx_1⟩ : ∃ j : Nat, j < 5 ∧ w = nI (0 + j) := qx_sw 0 5 (by decide) (by decide) z_1
    rcases (show j_1 = 0 ∨ j_1 = 1 ∨ j_1 = 2 ∨ j_1 = 3 ∨ j_1 = 4 by omega) with rfl | rfl | rfl | rfl | rfl
    · rw [hx_1]
      refine V_tabIn (x := nI (0 + 0)) 36 dX8_count_1 (by decide) (by decide) rfl rfl ?_
      refine V_aload_n 37 dX8_count_36 rfl rfl ?_
      refine V_geti 40 8 0 fl_X8_24 dX8_count_37 rfl rfl (by decide) rfl (by decide) ?_
      refine V_iret dX8_count_40 rfl rfl ⟨_, rfl, ?_⟩ (by first | exact Nat.le_refl _ | decide | omega) (by first | exact Nat.le_refl _ | decide | omega)
      exact ⟨rfl, rfl⟩
    · rw [hx_1]
      refine V_tabIn (x := nI (0 + 1)) 41 dX8_count_1 (by decide) (by decide) rfl rfl ?_
      refine V_aload_n 42 dX8_count_41 rfl rfl ?_
      refine V_geti 45 8 1 fl_X8_3 dX8_count_42 rfl rfl (by decide) rfl (by decide) ?_
      refine V_iret dX8_count_45 rfl rfl ⟨_, rfl, ?_⟩ (by first | exact Nat.le_refl _ | decide | omega) (by first | exact Nat.le_refl _ | decide | omega)
      exact ⟨rfl, rfl⟩
    · rw [hx_1]
      refine V_tabIn (x := nI (0 + 2)) 46 dX8_count_1 (by decide) (by decide) rfl rfl ?_
      exact absurd (by rw [hx_1]; rfl) hw
    · rw [hx_1]
      refine V_tabIn (x := nI (0 + 3)) 55 dX8_count_1 (by decide) (by decide) rfl rfl ?_
      refine V_aload_n 56 dX8_count_55 rfl rfl ?_
      refine V_cV0i 59 (ct_X8_open hS e hnh) cs_X8_122 rfl rfl (by decide) dX8_count_56 rfl ⟨Nat.le_of_ble_eq_true rfl, Nat.le_of_ble_eq_true rfl⟩ (Nat.le_of_ble_eq_true rfl) ⟨Nat.le_of_ble_eq_true rfl, Nat.le_of_ble_eq_true rfl⟩ (fun x h' hx hle => ?_)
      obtain ⟨rfl, rfl⟩ := hx
      refine V_iret dX8_count_59 rfl rfl ⟨_, rfl, ?_⟩ (by first | exact Nat.le_refl _ | decide | omega) (by first | exact Nat.le_refl _ | decide | omega)
      exact ⟨rfl, rfl⟩
    · rw [hx_1]
      refine V_tabIn (x := nI (0 + 4)) 60 dX8_count_1 (by decide) (by decide) rfl rfl ?_
      refine V_aload_n 61 dX8_count_60 rfl rfl ?_
      refine V_geti 64 8 27 fl_X8_206 dX8_count_61 rfl rfl (by decide) rfl (by decide) ?_
      refine V_iret dX8_count_64 rfl rfl ⟨_, rfl, ?_⟩ (by first | exact Nat.le_refl _ | decide | omega) (by first | exact Nat.le_refl _ | decide | omega)
      exact ⟨rfl, rfl⟩
theorem ct_X8_count2 {nk : Nat} (hS : SHR h) (e : qg_i h 33 0 6 = nI nk) (hnk : nk ≤ 300) : qM yX8_count cX8_count 2 ((some .int)) 2 43 0 0 [.inr (.inr (some (33, 0))), .inl 2] h (pI fun x g => ∃ ng, FG h nk g ng ∧ x = nI ng) := by
  refine qM.of (plainFor_of_name (by decide)) (Nat.le_of_ble_eq_true rfl) ?_
  refine V_iload_n 1 dX8_count_0 rfl rfl ?_
  refine V_tabIn (x := 2) 46 dX8_count_1 (by decide) (by decide) rfl rfl ?_
  refine V_aload_n 47 dX8_count_46 rfl rfl ?_
  refine V_cV0v 50 (ct_X8_forget hS e hnk) cs_X8_45 rfl rfl (by decide) dX8_count_47 rfl ⟨Nat.le_of_ble_eq_true rfl, Nat.le_of_ble_eq_true rfl⟩ (Nat.le_of_ble_eq_true rfl) ⟨Nat.le_of_ble_eq_true rfl, Nat.le_of_ble_eq_true rfl⟩ (fun h' hx hle => ?_)
  obtain ⟨ng, hF⟩ := hx
  refine V_aload_n 51 dX8_count_50 rfl rfl ?_
  refine V_getiV 54 8 6 fl_X8_32 dX8_count_51 rfl rfl (by decide) rfl (by decide) hF.1 ?_
  refine V_iret dX8_count_54 rfl rfl ⟨_, rfl, ?_⟩ (by first | exact Nat.le_refl _ | decide | omega) (by first | exact Nat.le_refl _ | decide | omega)
  exact ⟨ng, hF, rfl⟩
end RK
