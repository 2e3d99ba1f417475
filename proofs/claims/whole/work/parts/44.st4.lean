/-! Call by call: time -/
section TI
variable {c : Nat} {h : qH}
theorem nI_minus {m d : Nat} : nI (m + d) - nI m = nI d := by
  rw [← nI_add]
  grind
theorem f_old_27 : ∀ j i, qg_i (f_old h j) 27 i 4 = if i < j ∧ ¬ qg_i h 27 i 4 = 0 ∧ 60 ≤ qg_i h 1 0 5 - qg_i h 27 i 3 then 0 else qg_i h 27 i 4
  | 0, i => by
    rw [if_neg (fun z => absurd z.1 (Nat.not_lt_zero _))]
    rfl
  | j + 1, i => by
    have ih := f_old_27 j i
    by_cases q : ¬ qg_i h 27 j 4 = 0 ∧ 60 ≤ qg_i h 1 0 5 - qg_i h 27 j 3
    · have e : f_old h (j + 1) = f_eh (f_old h j) j (hu_ h j) (hr_ h j) := by
        show (if _ then _ else _) = _
        rw [if_pos q]
      rw [e, eh_274]
      by_cases z : i = j
      · subst z
        rw [if_pos ⟨rfl, rfl, rfl⟩, if_pos ⟨Nat.lt_succ_self _, q⟩]
      · rw [if_neg (fun y => z y.2.1), ih]
        have : (i < j + 1) ↔ i < j := by omega
        simp only [this]
    · have e : f_old h (j + 1) = f_old h j := by
        show (if _ then _ else _) = _
        rw [if_neg q]
      rw [e, ih]
      by_cases z : i = j
      · subst z
        rw [if_neg (fun y => absurd y.1 (Nat.lt_irrefl _)), if_neg (fun y => q y.2)]
      · have : (i < j + 1) ↔ i < j := by omega
        simp only [this]
theorem HK.old {NA NH : Nat} (K : HK h NA NH) (hn : NH ≤ 200) : ∀ j, j ≤ NH → HK (f_old h j) NA NH ∧ cO (f_old h j) NH ≤ cO h NH
  | 0, _ => ⟨K, Nat.le_refl _⟩
  | j + 1, hj => by
    obtain ⟨k1, k2⟩ := HK.old K hn j (by omega)
    by_cases q : ¬ qg_i h 27 j 4 = 0 ∧ 60 ≤ qg_i h 1 0 5 - qg_i h 27 j 3
    · have e : f_old h (j + 1) = f_eh (f_old h j) j (hu_ h j) (hr_ h j) := by
        show (if _ then _ else _) = _
        rw [if_pos q]
      obtain ⟨⟨-, o2, -⟩, -, o5, o6, -⟩ := f_old_fr (h := h) j
      have e1 : hu_ (f_old h j) j = hu_ h j := by
        unfold hu_
        rw [o2]
      have e2 : hr_ (f_old h j) j = hr_ h j := by
        unfold hr_
        rw [o5 j 1 (by decide)]
      have := k1.eh (j := j) (by omega) hn (by rw [o6 j (Nat.le_refl _)]; exact q.1)
      rw [e1, e2] at this
      rw [e]
      exact ⟨this.1, by omega⟩
    · have e : f_old h (j + 1) = f_old h j := by
        show (if _ then _ else _) = _
        rw [if_neg q]
      rw [e]
      exact ⟨k1, k2⟩
theorem RD.tick {M NA NH NI a nk ng : Nat} {g : qH} (R : RD c h M NA NH NI) (ha : M + a ≤ 99999) (ek : qg_i h 6 0 3 = nI nk) (hnk : nk ≤ 300) (F : FGC (qs_i h 1 0 5 (nI (M + a))) (nI (M + a)) nk g ng) : RD (c + 1) (qs_i (f_old g NH) 33 0 0 (nI (M + a))) (M + a) NA NH NI := by
  obtain ⟨f1, f2, f3, ⟨n1, r1⟩, f5⟩ := F
  have r1 : qg_r g = qg_r h := r1
  obtain ⟨⟨o1, o2, o3⟩, o4, o5, o6, o7⟩ := f_old_fr (h := g) NH
  have gi : ∀ r i k, ¬ (r = 7 ∨ r = 8 ∨ r = 9 ∨ (r = 6 ∧ k = 3)) → ¬ (r = 1 ∧ i = 0 ∧ k = 5) → qg_i g r i k = qg_i h r i k := fun r i k h1 h2 => by
    rw [(f5 r i k h1).1]
    show (if r = 1 ∧ i = 0 ∧ k = 5 then _ else _) = _
    rw [if_neg h2]
    rfl
  have gl : ∀ r i k, ¬ (r = 7 ∨ r = 8 ∨ r = 9 ∨ (r = 6 ∧ k = 3)) → qg_l g r i k = qg_l h r i k := fun r i k h1 => (f5 r i k h1).2
  have now : qg_i g 1 0 5 = nI (M + a) := (f5 1 0 5 (by omega)).1
  have e27 : qg_i g 27 = qg_i h 27 := by
    funext i k
    exact gi 27 i k (by omega) (by omega)
  have e25 : qg_i g 25 = qg_i h 25 := by
    funext i k
    exact gi 25 i k (by omega) (by omega)
  have ec : cO g NH = cO h NH := by
    unfold cO
    rw [e27]
  have K : HK g NA NH := by
    refine ⟨?_, ?_, R.h3.to e25 e27 (congrFun r1 27) (congrFun r1 22)⟩
    · have := R.h1.1
      unfold WHC hu_ hr_ at this ⊢
      rw [e27, r1]
      exact this
    · rw [gi 1 0 8 (by omega) (by omega), ec]
      exact ((BH2.iff R.nh).mp R.h2).1
  obtain ⟨⟨k1, k2, k3⟩, k4⟩ := K.old R.nh NH (Nat.le_refl _)
  have x33 : ∀ k, k ≠ 0 → qg_i (qs_i (f_old g NH) 33 0 0 (nI (M + a))) 33 0 k = qg_i h 33 0 k := fun k hk => by
    show (if 33 = 33 ∧ 0 = 0 ∧ k = 0 then _ else qg_i (f_old g NH) 33 0 k) = _
    rw [if_neg (fun z => hk z.2.2), o4 33 (by decide) (by decide) (by decide)]
    exact gi 33 0 k (by omega) (by omega)
  have y33 : qg_i (qs_i (f_old g NH) 33 0 0 (nI (M + a))) 33 0 0 = nI (M + a) := rfl
  have x1 : ∀ k, k ≠ 8 → k ≠ 5 → qg_i (qs_i (f_old g NH) 33 0 0 (nI (M + a))) 1 0 k = qg_i h 1 0 k := fun k hk h5 => by
    rw [fr_ii (by decide), o7 k hk]
    exact gi 1 0 k (by omega) (by omega)
  have y1 : qg_i (qs_i (f_old g NH) 33 0 0 (nI (M + a))) 1 0 5 = nI (M + a) := by
    rw [fr_ii (by decide), o7 5 (by decide), now]
  have y63 : qg_i (qs_i (f_old g NH) 33 0 0 (nI (M + a))) 6 0 3 = nI ng := by
    rw [fr_ii (by decide), o4 6 (by decide) (by decide) (by decide), f1]
  have yk : ∀ n, kl (qs_i (f_old g NH) 33 0 0 (nI (M + a))) 7 8 9 n = kl g 7 8 9 n := fun n => by
    unfold kl
    rw [fr_ii (by decide), fr_ii (by decide), o4 8 (by decide) (by decide) (by decide), o4 9 (by decide) (by decide) (by decide)]
    show List.map (fun k => (qg_l (f_old g NH) 7 0 k, _)) _ = _
    rw [o3]
  have Ei : ∀ r, r ∉ [1, 6, 7, 8, 9, 25, 27, 33] → qg_i (qs_i (f_old g NH) 33 0 0 (nI (M + a))) r = qg_i h r := fun r hr => by
    simp only [List.mem_cons, List.not_mem_nil, or_false, not_or] at hr
    rw [fr_ii (by omega), o4 r (by omega) (by omega) (by omega)]
    funext i k
    exact gi r i k (by omega) (by omega)
  have El : ∀ r, r ∉ [6, 7, 8, 9] → qg_l (qs_i (f_old g NH) 33 0 0 (nI (M + a))) r = qg_l h r := fun r hr => by
    simp only [List.mem_cons, List.not_mem_nil, or_false, not_or] at hr
    show qg_l (f_old g NH) r = _
    rw [o3]
    funext i k
    exact gl r i k (by omega)
  have Er : qg_r (qs_i (f_old g NH) 33 0 0 (nI (M + a))) = qg_r h := o2.trans r1
  have En : qg_n (qs_i (f_old g NH) 33 0 0 (nI (M + a))) = qg_n h := o1.trans n1
  have z27 : ∀ i k, k ≠ 4 → qg_i (qs_i (f_old g NH) 33 0 0 (nI (M + a))) 27 i k = qg_i h 27 i k := fun i k hk => by
    rw [fr_ii (by decide), o5 i k hk, e27]
  have z274 : ∀ i, qg_i (qs_i (f_old g NH) 33 0 0 (nI (M + a))) 27 i 4 = if i < NH ∧ ¬ qg_i h 27 i 4 = 0 ∧ 60 ≤ nI (M + a) - qg_i h 27 i 3 then 0 else qg_i h 27 i 4 := fun i => by
    rw [fr_ii (by decide), f_old_27, e27, now]
  have w8 : qg_i (qs_i (f_old g NH) 33 0 0 (nI (M + a))) 1 0 8 = nI (cO (qs_i (f_old g NH) 33 0 0 (nI (M + a))) NH) := by
    rw [fr_ii (by decide), k2]
    unfold cO
    rw [fr_ii (by decide)]
  have w9 : cO (qs_i (f_old g NH) 33 0 0 (nI (M + a))) NH ≤ cO h NH := by
    rw [← ec]
    refine Nat.le_trans (Nat.le_of_eq ?_) k4
    unfold cO
    rw [fr_ii (by decide)]
  have w3 : BH3 (qs_i (f_old g NH) 33 0 0 (nI (M + a))) NA NH := k3.to (fr_ii (by decide)) (fr_ii (by decide)) rfl rfl
  generalize qs_i (f_old g NH) 33 0 0 (nI (M + a)) = G at *
  refine ⟨?_, R.sr.to (congrFun Er 33), R.sh.to Er, R.sn.to En, R.wn.to (fun t => congrFun (congrFun (Ei 10 (by decide)) t) 0), R.ba.to (Ei 22 (by decide)) (Ei 34 (by decide)) (Ei 35 (by decide)) (congrFun Er 22), R.bl.to (Ei 26 (by decide)) (Ei 36 (by decide)), R.bu.to (El 24 (by decide)) (El 37 (by decide)) (Ei 35 (by decide)), (R.bs.to (El 37 (by decide))).up (Nat.le_succ _), ?_, ?_, ?_, ?_, R.bp.to (El 46 (by decide)) (Ei 18 (by decide)) (El 19 (by decide)) (Ei 20 (by decide)) (Ei 21 (by decide)), R.bt.to (fun t => congrFun (congrFun (Ei 10 (by decide)) t) 7) (fun t => congrFun (congrFun (El 10 (by decide)) t) 8) (fun t => congrFun (congrFun (Ei 10 (by decide)) t) 9) (Ei 47 (by decide)) (El 48 (by decide)) (Ei 49 (by decide)), ?_, R.bY.to (Ei 53 (by decide)) (Ei 57 (by decide)) (Ei 58 (by decide)) (El 46 (by decide)) (Ei 18 (by decide)) (El 19 (by decide)) (Ei 20 (by decide)) (Ei 21 (by decide)), R.bc.to (Ei 15 (by decide)) (Ei 50 (by decide)) (Ei 17 (by decide)) (Ei 52 (by decide)) (Ei 53 (by decide)) (El 16 (by decide)) (El 51 (by decide)), R.bi.to (Ei 28 (by decide)) (Ei 57 (by decide)) (Ei 58 (by decide)) (Ei 59 (by decide)) (Ei 29 (by decide)) (Ei 30 (by decide)) (El 28 (by decide)) (El 31 (by decide)) (El 32 (by decide)) (El 60 (by decide))⟩
  · refine ⟨⟨ha, R.na, R.nh, R.ni⟩, ⟨y1, ?_, ?_, ?_⟩, y33, ?_, ?_, ?_⟩
    · rw [x1 6 (by decide) (by decide)]; exact R.sc.2.1.2.1
    · rw [x1 7 (by decide) (by decide)]; exact R.sc.2.1.2.2.1
    · rw [x1 9 (by decide) (by decide)]; exact R.sc.2.1.2.2.2
    · rw [x33 1 (by decide)]; exact R.sc.2.2.2.1
    · rw [x33 10 (by decide)]; exact R.sc.2.2.2.2.1
    · rw [x33 27 (by decide)]; exact R.sc.2.2.2.2.2
  · have hu0 : ∀ i, hu_ G i = hu_ h i := fun i => by
      unfold hu_
      rw [Er]
    have hr0 : ∀ i, hr_ G i = hr_ h i := fun i => by
      unfold hr_
      rw [z27 i 1 (by decide)]
    refine ⟨fun i hi => ?_, fun i hi => ?_⟩
    · rw [hu0, hr0, Er, z27 i 1 (by decide)]
      exact R.h1.1 i hi
    · obtain ⟨q1, q2, q3, q4, q5, ⟨m, hm, q6⟩, q7⟩ := R.h1.2 i hi
      rw [hu0, Ei 41 (by decide), Ei 42 (by decide), Ei 43 (by decide), Ei 44 (by decide), z27 i 1 (by decide), z27 i 2 (by decide), z27 i 3 (by decide)]
      refine ⟨q1, q2, q3, q4, q5, ⟨m, by omega, q6⟩, ?_⟩
      have e1 : m_open G i = (decide (qg_i h 45 0 i = 0) && decide (nI (M + a) < nI m + 60)) := by
        unfold m_open
        rw [Ei 45 (by decide), Ei 44 (by decide), q6, y33]
      have e2 : m_open h i = (decide (qg_i h 45 0 i = 0) && decide (nI M < nI m + 60)) := by
        unfold m_open
        rw [q6, R.sc.2.2.1]
      have s60 : nI m + 60 = nI (m + 60) := nI_add _ _
      have a1 : nI (M + a) < nI (m + 60) ↔ M + a < m + 60 := nI_ltI (by omega) (by omega)
      have a2 : nI M < nI (m + 60) ↔ M < m + 60 := nI_ltI (by omega) (by omega)
      have a3 : 60 ≤ nI (M + a) - nI m ↔ 60 ≤ M + a - m := by
        rw [show M + a = m + (M + a - m) by omega, nI_minus]
        rw [show m + (M + a - m) - m = M + a - m by omega]
        exact nI_leI (a := 60) (by omega) (by omega)
      rw [z274, ← q4, q6, e1, s60]
      rw [e2, s60] at q7
      by_cases w : qg_i h 27 i 4 = 0
      · rw [if_neg (fun z => z.2.1 w)]
        have : ¬ (decide (qg_i h 45 0 i = 0) && decide (nI M < nI (m + 60))) = true := fun z => q7.mpr z w
        simp only [Bool.and_eq_true, decide_eq_true_eq, a1, a2] at this ⊢
        constructor
        · intro z
          exact absurd w z
        · intro z
          exact absurd ⟨z.1, by omega⟩ this
      · have := q7.mp w
        simp only [Bool.and_eq_true, decide_eq_true_eq, a1, a2] at this ⊢
        by_cases v : 60 ≤ M + a - m
        · rw [if_pos ⟨hi, w, a3.mpr v⟩]
          constructor
          · intro z
            exact absurd rfl z
          · intro z
            omega
        · rw [if_neg (fun z => v (a3.mp z.2.2))]
          constructor
          · intro z
            exact ⟨this.1, by omega⟩
          · intro z
            exact w
  · exact (BH2.iff R.nh).mpr ⟨w8, Nat.le_trans w9 ((BH2.iff R.nh).mp R.h2).2⟩
  · exact w3
  · obtain ⟨nc, nk', ⟨t1, t2⟩, ⟨t3, t4⟩, t5, t6⟩ := R.bk
    have : nc = nk := (nI_eq (by omega) (by omega)).mp (t1.symm.trans ek)
    subst this
    have e38 : kl G 38 39 40 nk' = kl h 38 39 40 nk' := kl_congr (fun k _ => ⟨congrFun (congrFun (El 38 (by decide)) 0) k, congrFun (congrFun (Ei 39 (by decide)) 0) k, congrFun (congrFun (Ei 40 (by decide)) 0) k⟩)
    refine ⟨ng, nk', ⟨y63, by omega⟩, ⟨by rw [x33 6 (by decide)]; exact t3, t4⟩, ?_, fun e he => ?_⟩
    · have e7 : kl (qs_i h 1 0 5 (nI (M + a))) 7 8 9 nc = kl h 7 8 9 nc := rfl
      rw [yk, f3, e7, t5, e38, List.filter_filter]
      refine List.filter_congr (fun e he => ?_)
      obtain ⟨m, hm, em⟩ := t6 e he
      unfold alv
      have s60 : nI m + 1000 = nI (m + 1000) := nI_add _ _
      have a1 : nI (M + a) < nI (m + 1000) ↔ M + a < m + 1000 := nI_ltI (by omega) (by omega)
      have a2 : nI M < nI (m + 1000) ↔ M < m + 1000 := nI_ltI (by omega) (by omega)
      have a3 : nI (M + a) - nI m < 1000 ↔ M + a - m < 1000 := by
        rw [show M + a = m + (M + a - m) by omega, nI_minus]
        rw [show m + (M + a - m) - m = M + a - m by omega]
        exact nI_ltI (b := 1000) (by omega) (by omega)
      rw [em, s60, ← Bool.decide_and, decide_eq_decide, a1, a2, a3]
      omega
    · rw [e38] at he
      obtain ⟨m, hm, em⟩ := t6 e he
      exact ⟨m, by omega, em⟩
  · exact (R.bz.to (fun t => congrFun (congrFun (Ei 10 (by decide)) t) 6) (Ei 53 (by decide)) (Ei 56 (by decide)) (El 13 (by decide)) (El 14 (by decide)) (El 54 (by decide)) (El 55 (by decide))).up (by omega) (Nat.le_succ _)
theorem st_tick (R : RC c h) (a : Int32) : ∃ f, qM yX7_tick cX7_tick 2 ((some .int)) 3 66 0 0 [.inr (.inr (some (1, 0))), .inl a] h (pI f) ∧ ∀ x g, f x g → qM yX8_tick cX8_tick 2 ((some .int)) 0 0 0 0 [.inr (.inr (some (33, 0))), .inl a] g (pI fun y g' => y = x ∧ RC (c + 1) g') := by
  have R0 := R
  obtain ⟨M, NA, NH, NI, R⟩ := R
  have e1 : qg_i h 1 0 5 = nI M := R.sc.2.1.1
  have e2 : qg_i h 33 0 0 = nI M := R.sc.2.2.1
  have hM := R.sc.1.1
  by_cases hb : a < 1 ∨ 10000 < a
  · refine rdI R0 (ct_X7_tick_bad hb) ((ct_X8_tick h a).weak ?_)
    rintro v h' ⟨x, x1, q | q | q⟩
    · exact ⟨x, x1, q.1, q.2.1⟩
    · exact absurd hb (by grind)
    · exact absurd hb (by grind)
  · have hb' : 1 ≤ a ∧ a ≤ 10000 := by grind
    have hn : a.toInt = (a.toInt.toNat : Int) ∧ a.toInt.toNat ≤ 10000 ∧ 1 ≤ a.toInt.toNat := by
      have h1 := Int32.le_iff_toInt_le.mp hb'.1
      have h2 := Int32.le_iff_toInt_le.mp hb'.2
      have h3 : (1 : Int32).toInt = 1 := rfl
      have h4 : (10000 : Int32).toInt = 10000 := rfl
      omega
    obtain ⟨n, hn, ea⟩ : ∃ n, (1 ≤ n ∧ n ≤ 10000) ∧ a = nI n := by
      refine ⟨a.toInt.toNat, ⟨hn.2.2, hn.2.1⟩, ?_⟩
      apply Int32.toInt_inj.mp
      rw [nI_toInt (by omega)]
      exact hn.1
    have s : nI M + a = nI (M + n) := by rw [ea, nI_add]
    have i1 : (99999 : Int32) < nI (M + n) ↔ 99999 < M + n := nI_ltI (a := 99999) (by omega) (by omega)
    have i2 : nI (M + n) ≤ (99999 : Int32) ↔ M + n ≤ 99999 := nI_leI (b := 99999) (by omega) (by omega)
    by_cases hf : 99999 < M + n
    · refine rdI R0 (ct_X7_tick_full hb' (by rw [e1, s]; exact i1.mpr hf)) ((ct_X8_tick h a).weak ?_)
      rintro v h' ⟨x, x1, q | q | q⟩
      · exact absurd q.2.2 hb
      · exact ⟨x, x1, q.1, q.2.1⟩
      · have := q.2.2.2.2
        rw [e2, s] at this
        have := i2.mp this
        omega
    · obtain ⟨nc, nk, ⟨k1, k2⟩, -⟩ := R.bk
      have C7 := ct_X7_tick_ok (a := a) R.sh R.na R.ba.1 R.sc.2.1.2.2.1 R.nh R.h1.1 k1 k2 hb' (by rw [e1, s]; exact i2.mpr (by omega))
      rw [e1, s] at C7
      refine ⟨_, C7, ?_⟩
      rintro x g' ⟨rfl, g, ng, F, rfl⟩
      have R2 := R.tick (by omega) k1 k2 F
      have e3 : qg_i (f_old g NH) 33 0 0 = nI M := by
        obtain ⟨-, -, -, -, f5⟩ := F
        rw [(f_old_fr (h := g) NH).2.1 33 (by decide) (by decide) (by decide), (f5 33 0 0 (by omega)).1]
        exact e2
      refine (ct_X8_tick (f_old g NH) a).weak ?_
      rintro v h' ⟨x, x1, q | q | q⟩
      · exact absurd q.2.2 hb
      · have := q.2.2.2.2
        rw [e3, s] at this
        exact absurd (i1.mp this) (by omega)
      · obtain ⟨q1, q2, -⟩ := q
        rw [e3, s] at q1 q2
        exact ⟨x, x1, q1, q2 ▸ ⟨_, _, _, _, R2⟩⟩
end TI
