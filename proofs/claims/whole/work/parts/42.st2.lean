/-! Call by call: tiers, credits, counts -/
section ST2
variable {c : Nat} {h : qH}
theorem PR.rise {p q j th : Nat} {last : Int64} (P : PR h p q) (hj : j < 5) (hth : th ≤ 5) (hl : 1 ≤ last) : (∀ i, i + 1 < th → f_rise h q j last i) ↔ (∀ k, 1 ≤ k → k + 1 < th → m_rise h p j last k) := by
  obtain ⟨-, p4, -, -, -, p8, -⟩ := P
  have key : ∀ k, 1 ≤ k → k < 5 → (f_rise h q j last k ↔ m_rise h p j last k) := by
    intro k h1 h2
    obtain ⟨i, rfl⟩ : ∃ i, k = i + 1 := ⟨k - 1, by omega⟩
    have w1 := (p4 (i + 1) h2).1
    have w2 := (p4 i (by omega)).1
    rw [show p + 3 + 3 * (i + 1) = p + 3 * (i + 1) + 3 by omega] at w1
    rw [show p + 3 + 3 * i = p + 3 * (i + 1) by omega] at w2
    unfold f_rise m_rise f_own
    rw [w1, w2, if_neg (by omega : ¬ i + 1 = 0), Nat.add_sub_cancel]
    have e : (i + 1 = j + 1) ↔ i = j := by omega
    simp only [e]
    grind
  constructor
  · intro H k h1 h2
    exact (key k h1 (by omega)).mp (H k h2)
  · intro H i hi
    rcases Nat.eq_zero_or_pos i with rfl | hp
    · unfold f_rise f_own
      rw [if_pos rfl]
      split <;> grind
    · exact (key i hp (by omega)).mpr (H i hp hi)
theorem i64_01 {x : Int64} (h : 1 ≤ x) : 0 ≤ x := by
  rw [Int64.le_iff_toInt_le] at h ⊢
  have h1 : (1 : Int64).toInt = 1 := rfl
  have h0 : (0 : Int64).toInt = 0 := rfl
  omega
section TI
variable {p q j k th : Nat} {la : Int64} {pr fe : Int32}
theorem m_tier_i : qg_i (m_tier h p j th la pr fe) = qg_i h := rfl
theorem m_tier_19 : qg_l (m_tier h p j th la pr fe) 19 = qg_l h 19 := rfl
theorem m_tier_46 {i : Nat} (w1 : i ≠ p + 2) (w2 : i ≠ p + 3 + 3 * j) (w3 : i ≠ p + 4 + 3 * j) (w4 : i ≠ p + 5 + 3 * j) : qg_l (m_tier h p j th la pr fe) 46 0 i = qg_l h 46 0 i := by
  unfold m_tier
  rw [qll, if_neg (fun z => w4 z.2.2), qll, if_neg (fun z => w3 z.2.2), qll, if_neg (fun z => w2 z.2.2), qll, if_neg (fun z => w1 z.2.2)]
theorem f_tier_l46 : qg_l (f_tier h p j th la pr fe) 46 = qg_l h 46 := rfl
theorem f_tier_18 : qg_i (f_tier h p j th la pr fe) 18 q k = if 18 = 18 ∧ q = p ∧ k = 3 then nI th else qg_i h 18 q k := rfl
theorem f_tier_20 : qg_i (f_tier h p j th la pr fe) 20 q k = if 20 = 20 ∧ q = p ∧ k = j then pr else qg_i h 20 q k := rfl
theorem f_tier_21 : qg_i (f_tier h p j th la pr fe) 21 q k = if 21 = 21 ∧ q = p ∧ k = j then fe else qg_i h 21 q k := rfl
theorem f_tier_19 : qg_l (f_tier h p j th la pr fe) 19 q k = if 19 = 19 ∧ q = p ∧ k = j then la else qg_l h 19 q k := rfl
end TI
theorem RD.tier {M NA NH NI t' r' j2' th : Nat} {last : Int64} {pr fe : Int32} (R : RD c h M NA NH NI) (ht : t' < 6) (hr : r' < 4) (j2 : j2' < 5) (hth1 : ∃ k', k' < 5 ∧ th = k' + 1) (hla : 1 ≤ last ∧ last ≤ 10000000000) (hpr : 0 ≤ pr ∧ pr ≤ 1000000) (hfe : 0 ≤ fe ∧ fe ≤ 1000000000) : RD (c + 1) (m_tier (f_tier h (8 * t' + 2 * r') j2' th last pr fe) (18 * (4 * t' + r')) j2' th last pr fe) M NA NH NI := by
  have P := R.bp t' ht r' hr
  have d46 : ∀ i, i ≠ 18 * (4 * t' + r') + 2 → i ≠ 18 * (4 * t' + r') + 3 + 3 * j2' → i ≠ 18 * (4 * t' + r') + 4 + 3 * j2' → i ≠ 18 * (4 * t' + r') + 5 + 3 * j2' → qg_l (m_tier (f_tier h (8 * t' + 2 * r') j2' th last pr fe) (18 * (4 * t' + r')) j2' th last pr fe) 46 0 i = qg_l h 46 0 i := by
    intro i w1 w2 w3 w4
    rw [m_tier_46 w1 w2 w3 w4, f_tier_l46]
  have e1 : ∀ i, ¬ (18 * (4 * t' + r') ≤ i ∧ i < 18 * (4 * t' + r') + 18) → qg_l (m_tier (f_tier h (8 * t' + 2 * r') j2' th last pr fe) (18 * (4 * t' + r')) j2' th last pr fe) 46 0 i = qg_l h 46 0 i := fun i hi => d46 i (by omega) (by omega) (by omega) (by omega)
  have d18 : ∀ q k, ¬ (q = 8 * t' + 2 * r' ∧ k = 3) → qg_i (m_tier (f_tier h (8 * t' + 2 * r') j2' th last pr fe) (18 * (4 * t' + r')) j2' th last pr fe) 18 q k = qg_i h 18 q k := by
    intro q k w
    rw [m_tier_i, f_tier_18, if_neg (fun z => w z.2)]
  have d19 : ∀ q k, ¬ (q = 8 * t' + 2 * r' ∧ k = j2') → qg_l (m_tier (f_tier h (8 * t' + 2 * r') j2' th last pr fe) (18 * (4 * t' + r')) j2' th last pr fe) 19 q k = qg_l h 19 q k := by
    intro q k w
    rw [m_tier_19, f_tier_19, if_neg (fun z => w z.2)]
  have d20 : ∀ q k, ¬ (q = 8 * t' + 2 * r' ∧ k = j2') → qg_i (m_tier (f_tier h (8 * t' + 2 * r') j2' th last pr fe) (18 * (4 * t' + r')) j2' th last pr fe) 20 q k = qg_i h 20 q k := by
    intro q k w
    rw [m_tier_i, f_tier_20, if_neg (fun z => w z.2)]
  have d21 : ∀ q k, ¬ (q = 8 * t' + 2 * r' ∧ k = j2') → qg_i (m_tier (f_tier h (8 * t' + 2 * r') j2' th last pr fe) (18 * (4 * t' + r')) j2' th last pr fe) 21 q k = qg_i h 21 q k := by
    intro q k w
    rw [m_tier_i, f_tier_21, if_neg (fun z => w z.2)]
  have s46 : qg_l (m_tier (f_tier h (8 * t' + 2 * r') j2' th last pr fe) (18 * (4 * t' + r')) j2' th last pr fe) 46 0 (18 * (4 * t' + r') + 2) = (nI th).toInt64 ∧ qg_l (m_tier (f_tier h (8 * t' + 2 * r') j2' th last pr fe) (18 * (4 * t' + r')) j2' th last pr fe) 46 0 (18 * (4 * t' + r') + 3 + 3 * j2') = last ∧ qg_l (m_tier (f_tier h (8 * t' + 2 * r') j2' th last pr fe) (18 * (4 * t' + r')) j2' th last pr fe) 46 0 (18 * (4 * t' + r') + 4 + 3 * j2') = pr.toInt64 ∧ qg_l (m_tier (f_tier h (8 * t' + 2 * r') j2' th last pr fe) (18 * (4 * t' + r')) j2' th last pr fe) 46 0 (18 * (4 * t' + r') + 5 + 3 * j2') = fe.toInt64 := by
    refine ⟨?_, ?_, ?_, ?_⟩
    · simp only [m_tier, qll]
      rw [if_neg (by omega), if_neg (by omega), if_neg (by omega), if_pos (by simp)]
    · simp only [m_tier, qll]
      rw [if_neg (by omega), if_neg (by omega), if_pos (by simp)]
    · simp only [m_tier, qll]
      rw [if_neg (by omega), if_pos (by simp)]
    · simp only [m_tier, qll]
      rw [if_pos (by simp)]
  have sC : qg_i (m_tier (f_tier h (8 * t' + 2 * r') j2' th last pr fe) (18 * (4 * t' + r')) j2' th last pr fe) 18 (8 * t' + 2 * r') 3 = nI th ∧ qg_l (m_tier (f_tier h (8 * t' + 2 * r') j2' th last pr fe) (18 * (4 * t' + r')) j2' th last pr fe) 19 (8 * t' + 2 * r') j2' = last ∧ qg_i (m_tier (f_tier h (8 * t' + 2 * r') j2' th last pr fe) (18 * (4 * t' + r')) j2' th last pr fe) 20 (8 * t' + 2 * r') j2' = pr ∧ qg_i (m_tier (f_tier h (8 * t' + 2 * r') j2' th last pr fe) (18 * (4 * t' + r')) j2' th last pr fe) 21 (8 * t' + 2 * r') j2' = fe := by
    rw [m_tier_i, m_tier_19, f_tier_18, f_tier_19, f_tier_20, f_tier_21]
    simp
  have e2 : ∀ q, q ≠ 8 * t' + 2 * r' → (∀ k, qg_i (m_tier (f_tier h (8 * t' + 2 * r') j2' th last pr fe) (18 * (4 * t' + r')) j2' th last pr fe) 18 q k = qg_i h 18 q k) ∧ (∀ j, qg_l (m_tier (f_tier h (8 * t' + 2 * r') j2' th last pr fe) (18 * (4 * t' + r')) j2' th last pr fe) 19 q j = qg_l h 19 q j) ∧ (∀ j, qg_i (m_tier (f_tier h (8 * t' + 2 * r') j2' th last pr fe) (18 * (4 * t' + r')) j2' th last pr fe) 20 q j = qg_i h 20 q j) ∧ (∀ j, qg_i (m_tier (f_tier h (8 * t' + 2 * r') j2' th last pr fe) (18 * (4 * t' + r')) j2' th last pr fe) 21 q j = qg_i h 21 q j) := fun q hq => ⟨fun k => d18 q k (fun w => hq w.1), fun k => d19 q k (fun w => hq w.1), fun k => d20 q k (fun w => hq w.1), fun k => d21 q k (fun w => hq w.1)⟩
  refine ⟨R.sc.to (by intro k hk; rcases hk with rfl | rfl | rfl | rfl <;> rfl) (by intro k hk; rcases hk with rfl | rfl | rfl | rfl <;> rfl), R.sr.to rfl, R.sh.to rfl, R.sn.to rfl, R.wn.to (fun _ => rfl), R.ba.to rfl rfl rfl rfl, R.bl.to rfl rfl, R.bu.to rfl rfl rfl, (R.bs.to rfl).up (Nat.le_succ _), R.h1.to rfl rfl rfl rfl rfl rfl rfl rfl, R.h2.to rfl rfl, R.h3.to rfl rfl rfl rfl, R.bk.to rfl rfl rfl rfl rfl rfl rfl rfl, ?_, R.bt.to (fun _ => rfl) (fun _ => rfl) (fun _ => rfl) rfl rfl rfl, (R.bz.to (fun _ => rfl) rfl rfl rfl rfl rfl rfl).up (Nat.le_refl _) (Nat.le_succ _), ?_, R.bc.to rfl rfl rfl rfl rfl rfl rfl, R.bi.to rfl rfl rfl rfl rfl rfl rfl rfl rfl rfl⟩
  · refine R.bp.one ht hr e1 e2 ?_
    generalize m_tier (f_tier h (8 * t' + 2 * r') j2' th last pr fe) (18 * (4 * t' + r')) j2' th last pr fe = G at *
    obtain ⟨⟨p1, p2, p3⟩, p4, p5, p6, p7, p8, p9⟩ := P
    obtain ⟨c1, c2, c3, c4⟩ := sC
    obtain ⟨y1, y2, y3, y4⟩ := s46
    refine ⟨⟨?_, ?_, ?_⟩, fun j hj => ?_, ?_, ?_, ?_, ?_, fun j hj => ?_⟩
    · rw [d46 _ (by omega) (by omega) (by omega) (by omega), d18 _ _ (by omega)]
      exact p1
    · rw [d46 _ (by omega) (by omega) (by omega) (by omega), d18 _ _ (by omega)]
      exact p2
    · rw [y1, c1]
    · by_cases w : j = j2'
      · subst w
        exact ⟨y2.trans c2.symm, by rw [y3, c3], by rw [y4, c4]⟩
      · rw [d46 _ (by omega) (by omega) (by omega) (by omega), d46 _ (by omega) (by omega) (by omega) (by omega), d46 _ (by omega) (by omega) (by omega) (by omega), d19 _ _ (fun q => w q.2), d20 _ _ (fun q => w q.2), d21 _ _ (fun q => w q.2)]
        exact p4 j hj
    · rw [c1]
      obtain ⟨k', w1, w2⟩ := hth1
      exact ⟨k', w1, by rw [w2]⟩
    · rw [d18 _ _ (by omega)]
      exact p6
    · rw [d18 _ _ (by omega)]
      exact p7
    · by_cases w : 0 = j2'
      · rw [w, c2]
        exact hla.1
      · rw [d19 _ _ (fun q => w q.2)]
        exact p8
    · by_cases w : j = j2'
      · subst w
        rw [c2, c3, c4]
        have := hla
        exact ⟨⟨i64_01 this.1, this.2⟩, hpr, hfe⟩
      · rw [d19 _ _ (fun q => w q.2), d20 _ _ (fun q => w q.2), d21 _ _ (fun q => w q.2)]
        exact p9 j hj
  · exact R.bY.one ht hr rfl rfl rfl e1 e2
theorem st_tier (R : RC c h) (t r j : Int32) (last : Int64) (pr fe : Int32) : ∃ f, qM yX7_tier cX7_tier 9 ((some .int)) 2 55 0 0 [.inr (.inr (some (1, 0))), .inl t, .inl r, .inl j, .inr (.inl last), .inl pr, .inl fe] h (pI f) ∧ ∀ x g, f x g → qM yX8_tier cX8_tier 17 ((some .int)) 1 21 0 0 [.inr (.inr (some (33, 0))), .inl t, .inl r, .inl j, .inr (.inl last), .inl pr, .inl fe] g (pI fun y g' => y = x ∧ RC (c + 1) g') := by
  have R0 := R
  obtain ⟨M, NA, NH, NI, R⟩ := R
  by_cases hb : (0 ≤ t ∧ t < 6) ∧ (0 ≤ r ∧ r < 4) ∧ (1 ≤ last ∧ last ≤ 10000000000) ∧ (0 ≤ pr ∧ pr ≤ 1000000) ∧ (0 ≤ fe ∧ fe ≤ 1000000000)
  · obtain ⟨t', ht, rfl⟩ : ∃ b, b < 6 ∧ t = nI b := ix_of (n := 6) (by decide) hb.1
    obtain ⟨r', hr, rfl⟩ : ∃ b, b < 4 ∧ r = nI b := ix_of (n := 4) (by decide) hb.2.1
    have P := R.bp t' ht r' hr
    obtain ⟨k, hk, k1, k2, k3, k4⟩ := P.tc
    have hth : ∀ j' : Nat, j' < 5 → j' ≤ k + 1 → (if j' = k + 1 then k + 1 + 1 else k + 1) ≤ 5 := fun j' q1 q2 => by split <;> omega
    refine ⟨_, ct_X7_tier R.sh ht hr hb.2.2.1 hb.2.2.2.1 hb.2.2.2.2 (tc := k + 1) ⟨by omega, by omega⟩ k1, ?_⟩
    rintro x g (⟨rfl, rfl, hno⟩ | ⟨rfl, j', ⟨rfl, j1, j2, j3⟩, rfl⟩)
    · refine (ct_X8_tier (tc := k + 1) R.sr ht hr hb.2.2.1 hb.2.2.2.1 hb.2.2.2.2 ⟨by omega, by omega⟩ k2).weak ?_
      rintro v h' ⟨z, z1, z2⟩
      rcases z2 with ⟨z3, rfl, -⟩ | ⟨-, j', ⟨e1, e2, e3, e4⟩, -⟩
      · exact ⟨z, z1, z3, R0.up (Nat.le_succ _)⟩
      · exact absurd ⟨j', e1, e2, e3, (P.rise e3 (hth j' e3 e2) hb.2.2.1.1).mpr e4⟩ hno
    · have hq := (P.rise j2 (hth j' j2 j1) hb.2.2.1.1).mp j3
      refine (ct_X8_tier (h := f_tier h (8 * t' + 2 * r') j' (if j' = k + 1 then k + 1 + 1 else k + 1) last pr fe) (tc := k + 1) (R.sr.to rfl) ht hr hb.2.2.1 hb.2.2.2.1 hb.2.2.2.2 ⟨by omega, by omega⟩ k2).weak ?_
      rintro v h' ⟨z, z1, z2⟩
      rcases z2 with ⟨-, -, z4⟩ | ⟨z3, j2', ⟨e1, e2, e3, e4⟩, rfl⟩
      · exact absurd ⟨j', rfl, j1, j2, hq⟩ z4
      · have : j2' = j' := ((nI_eq (by omega) (by omega)).mp e1).symm
        subst this
        refine ⟨z, z1, z3, M, NA, NH, NI, ?_⟩
        have hth5 := hth j2' j2 j1
        have hth1 : ∃ k', k' < 5 ∧ (if j2' = k + 1 then k + 1 + 1 else k + 1) = k' + 1 := by
          split
          · exact ⟨k + 1, by omega, rfl⟩
          · exact ⟨k, hk, rfl⟩
        generalize (if j2' = k + 1 then k + 1 + 1 else k + 1) = th at hth5 hth1
        exact R.tier ht hr j2 hth1 hb.2.2.1 hb.2.2.2.1 hb.2.2.2.2
  · exact rdI R0 (ct_X7_tier_bad R.sh hb) (ct_X8_tier_bad1 hb)
theorem st_credit (R : RC c h) (t : Int32) (m : Int64) (p : Int32) : ∃ f, qM yX7_credit cX7_credit 6 ((some .int)) 2 45 0 0 [.inr (.inr (some (1, 0))), .inl t, .inr (.inl m), .inl p] h (pI f) ∧ ∀ x g, f x g → qM yX8_credit cX8_credit 7 ((some .int)) 1 23 0 0 [.inr (.inr (some (33, 0))), .inl t, .inr (.inl m), .inl p] g (pI fun y g' => y = x ∧ RC (c + 1) g') := by
  have R0 := R
  obtain ⟨M, NA, NH, NI, R⟩ := R
  by_cases hb : (0 ≤ t ∧ t < 6) ∧ (1 ≤ m ∧ m ≤ 1000000000000) ∧ (0 ≤ p ∧ p < 100) ∧ ∃ t' : Nat, t' < 6 ∧ t = nI t' ∧ qg_i h 10 t' 6 ≤ p
  · obtain ⟨-, hm, hp, t', ht, rfl, hpc⟩ := hb
    obtain ⟨nc, hnc, ⟨b1, b2⟩, b3, s, hs, b4⟩ := R.bc t' ht
    obtain ⟨⟨q, q1, q2, q3⟩, -⟩ := R.bz t' ht
    have hpc8 : qg_i h 53 0 t' ≤ p := by rw [q3, ← q2]; exact hpc
    have esm : sm_i (m_some h t') nc = nI s := by
      rw [← b4]
      exact sm_i_congr (fun k hk => by unfold m_some f_some1; rw [(b3 k hk).2])
    have e10 : (10 : Int32) ≤ nI s ↔ 10 ≤ s := nI_leI (a := 10) (by decide) (by omega)
    refine ⟨_, ct_X7_credit_ok R.sh ht b1 hnc hm hp hpc, ?_⟩
    rintro x g (⟨rfl, rfl, hf⟩ | ⟨rfl, rfl, hn, hf⟩)
    · refine (ct_X8_credit_full R.sr ht b2 hnc hm hp hpc8 ?_).weak ?_
      · rcases hf with hf | hf
        · exact Or.inr hf
        · rw [b4] at hf
          have : s = 10 := by have := e10.mp hf; omega
          rw [esm, this]
          exact Or.inl rfl
      · rintro v h' ⟨z, z1, z2, rfl⟩
        exact ⟨z, z1, z2, R0.up (Nat.le_succ _)⟩
    · have hs10 : s < 10 := by
        rw [b4] at hf
        exact Nat.not_le.mp (fun q => hf (e10.mpr q))
      have C8 := ct_X8_credit_ok (h := qs_i (qs_i (qs_l h 16 t' nc m) 17 t' nc p) 15 t' 2 (nI (nc + 1))) (nc := nc) (R.sr.to rfl) ht b2 hn hm hp hpc8 (by
        show sm_i (m_some h t') nc ≠ 10
        rw [esm]
        intro q
        have : nI s = nI 10 := q
        have := (nI_eq (by omega) (by omega)).mp this
        omega)
      refine C8.weak ?_
      rintro v h' ⟨z, z1, z2, rfl⟩
      refine ⟨z, z1, z2, M, NA, NH, NI, ?_⟩
      refine ⟨R.sc.to (by intro k hk; rcases hk with rfl | rfl | rfl | rfl <;> rfl) (by intro k hk; rcases hk with rfl | rfl | rfl | rfl <;> rfl), R.sr.to rfl, R.sh.to rfl, R.sn.to rfl, R.wn.to (fun _ => rfl), R.ba.to rfl rfl rfl rfl, R.bl.to rfl rfl, R.bu.to rfl rfl rfl, (R.bs.to rfl).up (Nat.le_succ _), R.h1.to rfl rfl rfl rfl rfl rfl rfl rfl, R.h2.to rfl rfl, R.h3.to rfl rfl rfl rfl, R.bk.to rfl rfl rfl rfl rfl rfl rfl rfl, R.bp.to rfl rfl rfl rfl rfl, R.bt.to (fun _ => rfl) (fun _ => rfl) (fun _ => rfl) rfl rfl rfl, (R.bz.to (fun _ => rfl) rfl rfl rfl rfl rfl rfl).up (Nat.le_refl _) (Nat.le_succ _), R.bY.to rfl rfl rfl rfl rfl rfl rfl rfl, ?_, R.bi.to rfl rfl rfl rfl rfl rfl rfl rfl rfl rfl⟩
      intro t2 ht2
      by_cases e : t2 = t'
      · subst e
        refine ⟨nc + 1, by omega, ⟨by simp [qii, qil], by simp [qii, qil]⟩, fun k hk => ?_, ?_⟩
        · by_cases ek : k = nc
          · subst ek
            refine ⟨by simp [qii, qil], ?_⟩
            unfold m_left
            simp only [qii, qil, qll, qli]
            simp
            intro q
            exact absurd hpc8 (by grind)
          · have := b3 k (by omega)
            unfold m_left at this ⊢
            simp only [qii, qil, qll, qli]
            simp [ek]
            exact this
        · refine ⟨s + 1, by omega, ?_⟩
          show sm_i _ nc + _ = _
          rw [← nI_1 s, ← b4]
          refine congr (congrArg _ (sm_i_congr (fun k hk => ?_))) ?_
          · unfold f_some1
            simp [qll, qli, show k ≠ nc by omega]
          · unfold f_some1
            simp [qll, qli]
            grind
      · obtain ⟨n2, hn2, ⟨c1, c2⟩, c3, s2, hs2, c4⟩ := R.bc t2 ht2
        refine ⟨n2, hn2, ⟨by simp [qii, qil, e]; exact c1, by simp [qii, qil, e]; exact c2⟩, fun k hk => ?_, s2, hs2, ?_⟩
        · have := c3 k hk
          have w : 40 * t2 + k ≠ 40 * t' + nc := by omega
          unfold m_left at this ⊢
          simp only [qii, qil, qll, qli]
          simp [e, w]
          exact this
        · rw [← c4]
          refine sm_i_congr (fun k hk => ?_)
          unfold f_some1
          simp [qll, qli, e]
  · refine rdI R0 (ct_X7_credit_bad R.sh hb) (ct_X8_credit_bad R.sr (fun q => hb ?_))
    obtain ⟨q1, q2, q3, t', ht, e, q4⟩ := q
    obtain ⟨⟨w, w1, w2, w3⟩, -⟩ := R.bz t' ht
    exact ⟨q1, q2, q3, t', ht, e, by rw [w2, ← w3]; exact q4⟩
theorem alv_eq {M : Nat} (e : qg_i h 33 0 0 = nI M) : (fun e : Int64 × Int32 × Int32 => decide (qg_i h 33 0 0 < e.2.2 + 1000)) = alv M := by
  funext x
  unfold alv
  rw [e]
theorem filter_idem (l : List (Int64 × Int32 × Int32)) (f : Int64 × Int32 × Int32 → Bool) : (l.filter f).filter f = l.filter f := by
  rw [List.filter_filter]
  congr 1
  funext x
  simp
/-- the reference forgets -/
theorem RD.forget {M NA NH NI nk ng : Nat} {g : qH} (R : RD c h M NA NH NI) (ek : qg_i h 33 0 6 = nI nk) (hnk : nk ≤ 300) (F : FG h nk g ng) : RD (c + 1) g M NA NH NI ∧ qg_i h 6 0 3 = nI ng ∧ ng ≤ 300 ∧ kl g 38 39 40 ng = kl h 7 8 9 ng := by
  obtain ⟨nc, nk', ⟨k1, k2⟩, ⟨k3, k4⟩, k5, k6⟩ := R.bk
  have : nk' = nk := (nI_eq (by omega) (by omega)).mp (k3.symm.trans ek)
  subst this
  obtain ⟨f1, f2, f3, ⟨En, Er⟩, f5⟩ := F
  rw [alv_eq R.sc.2.2.1] at f3
  have hlen : ng = nc := by
    have := congrArg List.length (f3.trans k5.symm)
    rwa [kl_len, kl_len] at this
  subst hlen
  have Ei : ∀ r, r ∉ [38, 39, 40, 33] → qg_i g r = qg_i h r := fun r hr => by
    funext i k
    simp at hr
    exact (f5 r i k (by omega)).1
  have El : ∀ r, r ∉ [38, 39, 40, 33] → qg_l g r = qg_l h r := fun r hr => by
    funext i k
    simp at hr
    exact (f5 r i k (by omega)).2
  have E33 : ∀ k, k ≠ 6 → qg_i g 33 0 k = qg_i h 33 0 k := fun k hk => (f5 33 0 k (by omega)).1
  refine ⟨?_, k1, k2, f3.trans k5.symm⟩
  refine ⟨?_, R.sr.to (congrFun Er 33), R.sh.to Er, R.sn.to En, R.wn.to (fun t => congrFun (congrFun (Ei 10 (by decide)) t) 0), R.ba.to (Ei 22 (by decide)) (Ei 34 (by decide)) (Ei 35 (by decide)) (congrFun Er 22), R.bl.to (Ei 26 (by decide)) (Ei 36 (by decide)), R.bu.to (El 24 (by decide)) (El 37 (by decide)) (Ei 35 (by decide)), (R.bs.to (El 37 (by decide))).up (Nat.le_succ _), ?_, R.h2.to (congrFun (congrFun (Ei 1 (by decide)) 0) 8) (Ei 27 (by decide)), R.h3.to (Ei 25 (by decide)) (Ei 27 (by decide)) (congrFun Er 27) (congrFun Er 22), ?_, R.bp.to (El 46 (by decide)) (Ei 18 (by decide)) (El 19 (by decide)) (Ei 20 (by decide)) (Ei 21 (by decide)), R.bt.to (fun t => congrFun (congrFun (Ei 10 (by decide)) t) 7) (fun t => congrFun (congrFun (El 10 (by decide)) t) 8) (fun t => congrFun (congrFun (Ei 10 (by decide)) t) 9) (Ei 47 (by decide)) (El 48 (by decide)) (Ei 49 (by decide)), (R.bz.to (fun t => congrFun (congrFun (Ei 10 (by decide)) t) 6) (Ei 53 (by decide)) (Ei 56 (by decide)) (El 13 (by decide)) (El 14 (by decide)) (El 54 (by decide)) (El 55 (by decide))).up (Nat.le_refl _) (Nat.le_succ _), R.bY.to (Ei 53 (by decide)) (Ei 57 (by decide)) (Ei 58 (by decide)) (El 46 (by decide)) (Ei 18 (by decide)) (El 19 (by decide)) (Ei 20 (by decide)) (Ei 21 (by decide)), R.bc.to (Ei 15 (by decide)) (Ei 50 (by decide)) (Ei 17 (by decide)) (Ei 52 (by decide)) (Ei 53 (by decide)) (El 16 (by decide)) (El 51 (by decide)), R.bi.to (Ei 28 (by decide)) (Ei 57 (by decide)) (Ei 58 (by decide)) (Ei 59 (by decide)) (Ei 29 (by decide)) (Ei 30 (by decide)) (El 28 (by decide)) (El 31 (by decide)) (El 32 (by decide)) (El 60 (by decide))⟩
  · exact R.sc.to (fun k _ => congrFun (congrFun (Ei 1 (by decide)) 0) k) (fun k hk => E33 k (by omega))
  · exact R.h1.to (Ei 27 (by decide)) (Ei 41 (by decide)) (Ei 42 (by decide)) (Ei 43 (by decide)) (Ei 44 (by decide)) (Ei 45 (by decide)) (congrFun Er 27) (E33 0 (by decide))
  · have e7 : kl g 7 8 9 ng = kl h 7 8 9 ng := kl_congr (fun k _ => ⟨congrFun (congrFun (El 7 (by decide)) 0) k, congrFun (congrFun (Ei 8 (by decide)) 0) k, congrFun (congrFun (Ei 9 (by decide)) 0) k⟩)
    refine ⟨ng, ng, ⟨by rw [Ei 6 (by decide)]; exact k1, k2⟩, ⟨f1, k2⟩, ?_, fun e he => ?_⟩
    · rw [e7, f3, k5, filter_idem]
    · rw [f3] at he
      exact k6 e (List.mem_filter.mp he).1
theorem st_count (R : RC c h) (w : Int32) : ∃ f, qM yX7_count cX7_count 2 ((some .int)) 0 0 0 0 [.inr (.inr (some (1, 0))), .inl w] h (pI f) ∧ ∀ x g, f x g → qM yX8_count cX8_count 2 ((some .int)) 2 43 0 0 [.inr (.inr (some (33, 0))), .inl w] g (pI fun y g' => y = x ∧ RC (c + 1) g') := by
  have R0 := R
  obtain ⟨M, NA, NH, NI, R⟩ := R
  by_cases hw : w.toInt = 2
  · obtain ⟨nc, nk, ⟨k1, k2⟩, ⟨k3, k4⟩, k5, k6⟩ := R.bk
    have : w = 2 := Int32.toInt_inj.mp hw
    subst this
    refine ⟨_, ct_X7_count R.sh, ?_⟩
    rintro x g ⟨rfl, rfl⟩
    refine (ct_X8_count2 R.sr k3 k4).weak ?_
    rintro v h' ⟨z, z1, ng, F, z2⟩
    obtain ⟨R2, e2, -⟩ := R.forget k3 k4 F
    refine ⟨z, z1, ?_, M, NA, NH, NI, R2⟩
    rw [z2]
    exact e2.symm
  · have C8 := ct_X8_count (w := w) R.sr R.sc.2.2.2.2.1 R.nh hw
    have e : m_count h 0 NH w = f_count h w := by
      unfold m_count f_count
      rw [if_neg hw, R.opn, ← R.h2.1, R.sc.2.2.1, R.sc.2.1.1, R.sc.2.2.2.1, R.sc.2.1.2.1, R.sc.2.2.2.2.2, R.sc.2.1.2.2.2]
    rw [e] at C8
    exact rdI R0 (ct_X7_count R.sh) C8
end ST2
