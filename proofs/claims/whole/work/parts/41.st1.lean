/-! Call by call: what only reads, and what sets a few places -/
section ST
variable {c : Nat} {h : qH}
theorem rdL {y7 y8 : MethodName} {c7 c8 : ByteArray} {n7 n8 : Nat} {t7 t8 : Option FieldType} {d7 l7 k7 s7 d8 l8 k8 s8 : Nat} {a7 a8 : List qV} {v : Int64} (R : RC c h) (C7 : qM y7 c7 n7 t7 d7 l7 k7 s7 a7 h (pL fun x h' => x = v ∧ h' = h)) (C8 : qM y8 c8 n8 t8 d8 l8 k8 s8 a8 h (pL fun x h' => x = v ∧ h' = h)) : ∃ f, qM y7 c7 n7 t7 d7 l7 k7 s7 a7 h (pL f) ∧ ∀ x g, f x g → qM y8 c8 n8 t8 d8 l8 k8 s8 a8 g (pL fun y g' => y = x ∧ RC (c + 1) g') := by
  refine ⟨_, C7, ?_⟩
  rintro x g ⟨rfl, rfl⟩
  refine C8.weak ?_
  rintro v' h' ⟨z, z1, z2, rfl⟩
  exact ⟨z, z1, z2, R.up (Nat.le_succ _)⟩
theorem rdI {y7 y8 : MethodName} {c7 c8 : ByteArray} {n7 n8 : Nat} {t7 t8 : Option FieldType} {d7 l7 k7 s7 d8 l8 k8 s8 : Nat} {a7 a8 : List qV} {v : Int32} (R : RC c h) (C7 : qM y7 c7 n7 t7 d7 l7 k7 s7 a7 h (pI fun x h' => x = v ∧ h' = h)) (C8 : qM y8 c8 n8 t8 d8 l8 k8 s8 a8 h (pI fun x h' => x = v ∧ h' = h)) : ∃ f, qM y7 c7 n7 t7 d7 l7 k7 s7 a7 h (pI f) ∧ ∀ x g, f x g → qM y8 c8 n8 t8 d8 l8 k8 s8 a8 g (pI fun y g' => y = x ∧ RC (c + 1) g') := by
  refine ⟨_, C7, ?_⟩
  rintro x g ⟨rfl, rfl⟩
  refine C8.weak ?_
  rintro v' h' ⟨z, z1, z2, rfl⟩
  exact ⟨z, z1, z2, R.up (Nat.le_succ _)⟩
/-- both set: the heap behind the first, the heap behind both -/
theorem wrI {y7 y8 : MethodName} {c7 c8 : ByteArray} {n7 n8 : Nat} {t7 t8 : Option FieldType} {d7 l7 k7 s7 d8 l8 k8 s8 : Nat} {a7 a8 : List qV} {v : Int32} {g1 g2 : qH} (C7 : qM y7 c7 n7 t7 d7 l7 k7 s7 a7 h (pI fun x h' => x = v ∧ h' = g1)) (C8 : qM y8 c8 n8 t8 d8 l8 k8 s8 a8 g1 (pI fun x h' => x = v ∧ h' = g2)) (R : RC (c + 1) g2) : ∃ f, qM y7 c7 n7 t7 d7 l7 k7 s7 a7 h (pI f) ∧ ∀ x g, f x g → qM y8 c8 n8 t8 d8 l8 k8 s8 a8 g (pI fun y g' => y = x ∧ RC (c + 1) g') := by
  refine ⟨_, C7, ?_⟩
  rintro x g ⟨rfl, rfl⟩
  refine C8.weak ?_
  rintro v' h' ⟨z, z1, z2, rfl⟩
  exact ⟨z, z1, z2, R⟩
theorem st_used (R : RC c h) (a r p : Int32) : ∃ f, qM yX7_used cX7_used 5 ((some .long)) 1 21 0 0 [.inr (.inr (some (1, 0))), .inl a, .inl r, .inl p] h (pL f) ∧ ∀ x g, f x g → qM yX8_used cX8_used 4 ((some .long)) 2 49 0 0 [.inr (.inr (some (33, 0))), .inl a, .inl r, .inl p] g (pL fun y g' => y = x ∧ RC (c + 1) g') := by
  have R0 := R
  obtain ⟨M, NA, NH, NI, R⟩ := R
  by_cases hb : (0 ≤ a ∧ a < nI NA) ∧ (0 ≤ r ∧ r < 4) ∧ (0 ≤ p ∧ p < 100)
  · obtain ⟨a', ha, rfl⟩ := ix_of (n := NA) (by have := R.na; omega) hb.1
    obtain ⟨r', hr, rfl⟩ : ∃ b, b < 4 ∧ r = nI b := ix_of (n := 4) (by decide) hb.2.1
    obtain ⟨p', hp, rfl⟩ : ∃ b, b < 100 ∧ p = nI b := ix_of (n := 100) (by decide) hb.2.2
    have C8 := ct_X8_used_ok R.sr R.sc.2.2.2.1 R.na R.wi ha hr hp
    rw [← R.bu a' ha r' hr p' hp] at C8
    exact rdL R0 (ct_X7_used_ok R.sh R.sc.2.1.2.1 R.na ha hr hp) C8
  · exact rdL R0 (ct_X7_used_bad R.sh R.sc.2.1.2.1 R.na hb) (ct_X8_used_bad (by rw [R.sc.2.2.2.1]; exact hb))
theorem st_held (R : RC c h) (a r : Int32) : ∃ f, qM yX7_held cX7_held 4 ((some .int)) 1 21 0 0 [.inr (.inr (some (1, 0))), .inl a, .inl r] h (pI f) ∧ ∀ x g, f x g → qM yX8_held cX8_held 3 ((some .int)) 2 47 0 0 [.inr (.inr (some (33, 0))), .inl a, .inl r] g (pI fun y g' => y = x ∧ RC (c + 1) g') := by
  have R0 := R
  obtain ⟨M, NA, NH, NI, R⟩ := R
  by_cases hb : (0 ≤ a ∧ a < nI NA) ∧ (0 ≤ r ∧ r < 4)
  · obtain ⟨a', ha, rfl⟩ := ix_of (n := NA) (by have := R.na; omega) hb.1
    obtain ⟨r', hr, rfl⟩ : ∃ b, b < 4 ∧ r = nI b := ix_of (n := 4) (by decide) hb.2
    have C8 := ct_X8_held_ok R.sr R.sc.2.2.2.1 R.na R.wi R.sc.2.2.2.2.1 R.nh R.wh ha hr
    rw [R.held ha hr] at C8
    exact rdI R0 (ct_X7_held_ok R.sh R.sc.2.1.2.1 R.na ha hr) C8
  · exact rdI R0 (ct_X7_held_bad R.sh R.sc.2.1.2.1 R.na hb) (ct_X8_held_bad (by rw [R.sc.2.2.2.1]; exact hb))
theorem st_room (R : RC c h) (a r : Int32) : ∃ f, qM yX7_room cX7_room 4 ((some .int)) 2 48 0 0 [.inr (.inr (some (1, 0))), .inl a, .inl r] h (pI f) ∧ ∀ x g, f x g → qM yX8_room cX8_room 3 ((some .int)) 3 74 0 0 [.inr (.inr (some (33, 0))), .inl a, .inl r] g (pI fun y g' => y = x ∧ RC (c + 1) g') := by
  have R0 := R
  obtain ⟨M, NA, NH, NI, R⟩ := R
  by_cases hb : (0 ≤ a ∧ a < nI NA) ∧ (0 ≤ r ∧ r < 4)
  · obtain ⟨a', ha, rfl⟩ := ix_of (n := NA) (by have := R.na; omega) hb.1
    obtain ⟨r', hr, rfl⟩ : ∃ b, b < 4 ∧ r = nI b := ix_of (n := 4) (by decide) hb.2
    obtain ⟨p, hp, p1, p2⟩ := R.per
    have C8 := ct_X8_room_ok R.sr R.sc.2.2.2.1 R.na R.wi R.sc.2.2.2.2.1 R.nh R.wh ha hr hp p2
    rw [R.room ha hr hp] at C8
    exact rdI R0 (ct_X7_room_ok R.sh R.ba.1 R.sc.2.1.2.1 R.na ha hr hp p1) C8
  · exact rdI R0 (ct_X7_room_bad R.sh R.sc.2.1.2.1 R.na hb) (ct_X8_room_bad (by rw [R.sc.2.2.2.1]; exact hb))
theorem st_hold (R : RC c h) (a w : Int32) : ∃ f, qM yX7_hold cX7_hold 4 ((some .int)) 1 21 0 0 [.inr (.inr (some (1, 0))), .inl a, .inl w] h (pI f) ∧ ∀ x g, f x g → qM yX8_hold cX8_hold 3 ((some .int)) 1 21 0 0 [.inr (.inr (some (33, 0))), .inl a, .inl w] g (pI fun y g' => y = x ∧ RC (c + 1) g') := by
  have R0 := R
  obtain ⟨M, NA, NH, NI, R⟩ := R
  rcases ix_c (x := a) (n := NH) (by have := R.nh; omega) with z | ⟨j, hj, rfl⟩
  · exact rdI R0 (ct_X7_hold_bad R.sc.2.1.2.2.1 z) (ct_X8_hold_bad R.sc.2.2.2.2.1 z)
  · obtain ⟨w1, w2, w3, w4⟩ := R.h1.1 j hj
    obtain ⟨q1, q2, q3, q4, q5, q6, q7⟩ := R.h1.2 j hj
    have C8 := ct_X8_hold_ok (w := w) R.sr R.sc.2.2.2.2.1 R.nh hj
    have e : m_hold h j w = f_hold h j (hu_ h j) w := by
      unfold m_hold f_hold
      rw [q1, q2, q3, q4, (R.ba.2.2 _ w1).1]
      by_cases z : qg_i h 27 j 4 = 0
      · have z1 : m_open h j = false := by
          cases ho : m_open h j with
          | false => rfl
          | true => exact absurd z (q7.mpr ho)
        simp [z, z1]
      · simp [z, q7.mp z]
    rw [e] at C8
    exact rdI R0 (ct_X7_hold_ok R.sh R.sc.2.1.2.2.1 R.nh hj w2) C8
theorem st_line (R : RC c h) (i k w : Int32) : ∃ f, qM yX7_line cX7_line 5 ((some .long)) 1 21 0 0 [.inr (.inr (some (1, 0))), .inl i, .inl k, .inl w] h (pL f) ∧ ∀ x g, f x g → qM yX8_line_ cX8_line_ 4 ((some .long)) 0 0 0 0 [.inr (.inr (some (33, 0))), .inl i, .inl k, .inl w] g (pL fun y g' => y = x ∧ RC (c + 1) g') := by
  have R0 := R
  obtain ⟨M, NA, NH, NI, R⟩ := R
  by_cases hb : ∃ i' : Nat, i' < NI ∧ i = nI i' ∧ (0 ≤ k ∧ k < qg_i h 28 i' 6) ∧ (0 ≤ w ∧ w ≤ 3)
  · obtain ⟨i', hi, rfl, hk, hw⟩ := hb
    obtain ⟨b1, lc, hlc, ⟨b2, b3⟩, b4, b5⟩ := R.bi i' hi
    rw [b2] at hk
    obtain ⟨k', hk', rfl⟩ := ix_of (n := lc) (by omega) hk
    obtain ⟨w', hw', rfl⟩ : ∃ b, b < 4 ∧ w = nI b := ix_of (n := 4) (by decide) ⟨hw.1, by have := hw.2; show w < 4; grind⟩
    have C8 := ct_X8_line__ok (w := w') R.sr R.sc.2.2.2.2.2 R.ni hi b3 (by omega) hk' (by omega)
    have e : qg_l h 60 0 (4 * (60 * i' + k') + w') = f_ln h i' k' w' := by
      obtain ⟨z1, z2, z3, z4⟩ := b4 k' hk'
      rcases (show w' = 0 ∨ w' = 1 ∨ w' = 2 ∨ w' = 3 by omega) with rfl | rfl | rfl | rfl
      · exact z1.symm
      · exact z2.symm
      · exact z3.symm
      · exact z4.symm
    rw [e] at C8
    exact rdL R0 (ct_X7_line_ok R.sh R.sc.2.1.2.2.2 R.ni hi b2 hlc hk' (by omega)) C8
  · refine rdL R0 (ct_X7_line_bad R.sh R.sc.2.1.2.2.2 R.ni hb) (ct_X8_line__bad R.sr R.sc.2.2.2.2.2 R.ni (fun q => hb ?_))
    obtain ⟨i', hi, e, hk, hw⟩ := q
    obtain ⟨b1, lc, hlc, ⟨b2, b3⟩, b4, b5⟩ := R.bi i' hi
    rw [b3, ← b2] at hk
    exact ⟨i', hi, e, hk, hw⟩
theorem st_invoice (R : RC c h) (i w : Int32) : ∃ f, qM yX7_invoice cX7_invoice 4 ((some .long)) 1 21 0 0 [.inr (.inr (some (1, 0))), .inl i, .inl w] h (pL f) ∧ ∀ x g, f x g → qM yX8_invoice cX8_invoice 6 ((some .long)) 0 0 0 0 [.inr (.inr (some (33, 0))), .inl i, .inl w] g (pL fun y g' => y = x ∧ RC (c + 1) g') := by
  have R0 := R
  obtain ⟨M, NA, NH, NI, R⟩ := R
  rcases ix_c (x := i) (n := NI) (by have := R.ni; omega) with z | ⟨j, hj, rfl⟩
  · exact rdL R0 (ct_X7_invoice_bad R.sc.2.1.2.2.2 z) (ct_X8_invoice_bad R.sc.2.2.2.2.2 z)
  · obtain ⟨⟨a1, a2⟩, lc, hlc, ⟨b2, b3⟩, b4, b5⟩ := R.bi j hj
    have C8 := ct_X8_invoice_ok (w := w) R.sr R.sc.2.2.2.2.2 R.ni hj b3 (by omega)
    have e : m_inv h j lc w = f_inv h j w := by
      unfold m_inv f_inv
      rw [a1, a2, b2, b5]
    rw [e] at C8
    exact rdL R0 (ct_X7_invoice_ok R.sh R.sc.2.1.2.2.2 R.ni hj) C8
theorem st_left (R : RC c h) (t k : Int32) : ∃ f, qM yX7_left cX7_left 4 ((some .long)) 1 21 0 0 [.inr (.inr (some (1, 0))), .inl t, .inl k] h (pL f) ∧ ∀ x g, f x g → qM yX8_left cX8_left 3 ((some .long)) 1 23 0 0 [.inr (.inr (some (33, 0))), .inl t, .inl k] g (pL fun y g' => y = x ∧ RC (c + 1) g') := by
  have R0 := R
  obtain ⟨M, NA, NH, NI, R⟩ := R
  by_cases hb : (0 ≤ t ∧ t < 6) ∧ ∃ t' : Nat, t' < 6 ∧ t = nI t' ∧ (0 ≤ k ∧ k < qg_i h 15 t' 2)
  · obtain ⟨-, t', ht, rfl, hk⟩ := hb
    obtain ⟨nc, hnc, ⟨b1, b2⟩, b3, b4⟩ := R.bc t' ht
    rw [b1] at hk
    obtain ⟨k', hk', rfl⟩ := ix_of (n := nc) (by omega) hk
    have C8 := ct_X8_left_ok R.sr ht b2 hnc hk'
    rw [← (b3 k' hk').2] at C8
    exact rdL R0 (ct_X7_left_ok R.sh ht b1 hnc hk') C8
  · refine rdL R0 (ct_X7_left_bad R.sh hb) (ct_X8_left_bad R.sr (fun q => hb ?_))
    obtain ⟨q0, t', ht, e, hk⟩ := q
    obtain ⟨nc, hnc, ⟨b1, b2⟩, b3, b4⟩ := R.bc t' ht
    exact ⟨q0, t', ht, e, by rw [b1, ← b2]; exact hk⟩
theorem st_closed (R : RC c h) (t : Int32) : ∃ f, qM yX7_closed cX7_closed 3 ((some .int)) 1 21 0 0 [.inr (.inr (some (1, 0))), .inl t] h (pI f) ∧ ∀ x g, f x g → qM yX8_closed cX8_closed 2 ((some .int)) 1 20 0 0 [.inr (.inr (some (33, 0))), .inl t] g (pI fun y g' => y = x ∧ RC (c + 1) g') := by
  have R0 := R
  obtain ⟨M, NA, NH, NI, R⟩ := R
  by_cases hb : 0 ≤ t ∧ t < 6
  · obtain ⟨t', ht, rfl⟩ : ∃ b, b < 6 ∧ t = nI b := ix_of (n := 6) (by decide) hb
    obtain ⟨⟨p, p1, p2, p3⟩, -⟩ := R.bz t' ht
    have C8 := ct_X8_closed_ok R.sr ht
    rw [p3, ← p2] at C8
    exact rdI R0 (ct_X7_closed_ok R.sh ht) C8
  · exact rdI R0 (ct_X7_closed_bad hb) (ct_X8_closed_bad hb)
theorem PR.cost {p q k : Nat} {n : Int64} (P : PR h p q) (hk : k < 5) : m_cost h p k n = f_cost h q k n := by
  unfold m_cost f_cost f_cst
  rw [P.1.1, P.1.2.1]
  exact cst_congr (fun j hj => P.2.1 j (by omega)) (k + 1) 0 (by omega) 0 0
theorem i64_nI {n : Nat} (h : n < 2 ^ 31) : (nI n).toInt64.toInt32 = nI n := Int32.toInt32_toInt64 _
theorem PR.tc {p q : Nat} (P : PR h p q) : ∃ k, k < 5 ∧ qg_i h 18 q 3 = nI (k + 1) ∧ (qg_l h 46 0 (p + 2)).toInt32 = nI (k + 1) ∧ ¬ qg_l h 46 0 (p + 1) = 0 ∧ 1 ≤ qg_i h 18 q 5 := by
  obtain ⟨k, hk, e⟩ := P.2.2.1
  refine ⟨k, hk, e, ?_, ?_, P.2.2.2.1.1⟩
  · rw [P.1.2.2, e]
    exact Int32.toInt32_toInt64 _
  · rw [P.1.2.1]
    exact i64_ne0 P.2.2.2.1.1
theorem st_cost (R : RC c h) (t r : Int32) (n : Int64) : ∃ f, qM yX7_cost cX7_cost 6 ((some .long)) 3 74 0 0 [.inr (.inr (some (1, 0))), .inl t, .inl r, .inr (.inl n)] h (pL f) ∧ ∀ x g, f x g → qM yX8_cost cX8_cost 5 ((some .long)) 2 62 0 0 [.inr (.inr (some (33, 0))), .inl t, .inl r, .inr (.inl n)] g (pL fun y g' => y = x ∧ RC (c + 1) g') := by
  have R0 := R
  obtain ⟨M, NA, NH, NI, R⟩ := R
  by_cases hb : (0 ≤ t ∧ t < 6) ∧ (0 ≤ r ∧ r < 4) ∧ (0 ≤ n ∧ n ≤ 10000000000)
  · obtain ⟨t', ht, rfl⟩ : ∃ b, b < 6 ∧ t = nI b := ix_of (n := 6) (by decide) hb.1
    obtain ⟨r', hr, rfl⟩ : ∃ b, b < 4 ∧ r = nI b := ix_of (n := 4) (by decide) hb.2.1
    have P := R.bp t' ht r' hr
    obtain ⟨k, hk, e1, e2, e3, e4⟩ := P.tc
    have C8 := ct_X8_cost_ok R.sr ht hr hk e3 e2 hb.2.2
    rw [P.cost hk] at C8
    exact rdL R0 (ct_X7_cost_ok R.sh ht hr hk e4 e1 hb.2.2) C8
  · exact rdL R0 (ct_X7_cost_bad R.sh hb) (ct_X8_cost_bad hb)
theorem st_limit (R : RC c h) (a r l : Int32) : ∃ f, qM yX7_limit cX7_limit 5 ((some .int)) 1 21 0 0 [.inr (.inr (some (1, 0))), .inl a, .inl r, .inl l] h (pI f) ∧ ∀ x g, f x g → qM yX8_limit cX8_limit 4 ((some .int)) 1 21 0 0 [.inr (.inr (some (33, 0))), .inl a, .inl r, .inl l] g (pI fun y g' => y = x ∧ RC (c + 1) g') := by
  have R0 := R
  obtain ⟨M, NA, NH, NI, R⟩ := R
  by_cases hb : (0 ≤ a ∧ a < nI NA) ∧ (0 ≤ r ∧ r < 4) ∧ (-1 ≤ l ∧ l ≤ 1000000000)
  · obtain ⟨a', ha, rfl⟩ := ix_of (n := NA) (by have := R.na; omega) hb.1
    obtain ⟨r', hr, rfl⟩ : ∃ b, b < 4 ∧ r = nI b := ix_of (n := 4) (by decide) hb.2.1
    refine wrI (ct_X7_limit_ok R.sh R.sc.2.1.2.1 R.na ha hr hb.2.2) (ct_X8_limit_ok (R.sr.to rfl) R.sc.2.2.2.1 R.na ha hr hb.2.2) ⟨M, NA, NH, NI, ?_⟩
    refine ⟨R.sc.to (by intro k hk; rcases hk with rfl | rfl | rfl | rfl <;> rfl) (by intro k hk; rcases hk with rfl | rfl | rfl | rfl <;> rfl), R.sr.to rfl, R.sh.to rfl, R.sn.to rfl, R.wn.to (fun _ => rfl), R.ba.to rfl rfl rfl rfl, ?_, R.bu.to rfl rfl rfl, (R.bs.to rfl).up (Nat.le_succ _), R.h1.to rfl rfl rfl rfl rfl rfl rfl rfl, R.h2.to rfl rfl, R.h3.to rfl rfl rfl rfl, R.bk.to rfl rfl rfl rfl rfl rfl rfl rfl, R.bp.to rfl rfl rfl rfl rfl, R.bt.to (fun _ => rfl) (fun _ => rfl) (fun _ => rfl) rfl rfl rfl, (R.bz.to (fun _ => rfl) rfl rfl rfl rfl rfl rfl).up (Nat.le_refl _) (Nat.le_succ _), R.bY.to rfl rfl rfl rfl rfl rfl rfl rfl, R.bc.to rfl rfl rfl rfl rfl rfl rfl, R.bi.to rfl rfl rfl rfl rfl rfl rfl rfl rfl rfl⟩
    intro b hb' r2 hr2
    have := R.bl b hb' r2 hr2
    simp only [qii]
    simp only [show ((26 : Nat) = 36) = False by simp, show ((36 : Nat) = 26) = False by simp, false_and, if_false, true_and]
    by_cases q : b = a' ∧ r2 = r'
    · rw [if_pos q, if_pos (by omega)]
    · rw [if_neg q, if_neg (by omega)]
      exact this
  · exact rdI R0 (ct_X7_limit_bad R.sh R.sc.2.1.2.1 R.na hb) (ct_X8_limit_bad (by rw [R.sc.2.2.2.1]; exact hb))
theorem st_terms (R : RC c h) (t d : Int32) (m : Int64) (x9 : Int32) : ∃ f, qM yX7_terms cX7_terms 7 ((some .int)) 1 21 0 0 [.inr (.inr (some (1, 0))), .inl t, .inl d, .inr (.inl m), .inl x9] h (pI f) ∧ ∀ x g, f x g → qM yX8_terms cX8_terms 6 ((some .int)) 1 20 0 0 [.inr (.inr (some (33, 0))), .inl t, .inl d, .inr (.inl m), .inl x9] g (pI fun y g' => y = x ∧ RC (c + 1) g') := by
  have R0 := R
  obtain ⟨M, NA, NH, NI, R⟩ := R
  by_cases hb : (0 ≤ t ∧ t < 6) ∧ (0 ≤ d ∧ d ≤ 10000) ∧ (0 ≤ m ∧ m ≤ 1000000000000) ∧ (0 ≤ x9 ∧ x9 ≤ 10000)
  · obtain ⟨t', ht, rfl⟩ : ∃ b, b < 6 ∧ t = nI b := ix_of (n := 6) (by decide) hb.1
    refine wrI (ct_X7_terms_ok R.sh ht hb.2.1 hb.2.2.1 hb.2.2.2) (ct_X8_terms_ok (R.sr.to rfl) ht hb.2.1 hb.2.2.1 hb.2.2.2) ⟨M, NA, NH, NI, ?_⟩
    refine ⟨R.sc.to (by intro k hk; rcases hk with rfl | rfl | rfl | rfl <;> rfl) (by intro k hk; rcases hk with rfl | rfl | rfl | rfl <;> rfl), R.sr.to rfl, R.sh.to rfl, R.sn.to rfl, ?_, R.ba.to rfl rfl rfl rfl, R.bl.to rfl rfl, R.bu.to rfl rfl rfl, (R.bs.to rfl).up (Nat.le_succ _), R.h1.to rfl rfl rfl rfl rfl rfl rfl rfl, R.h2.to rfl rfl, R.h3.to rfl rfl rfl rfl, R.bk.to rfl rfl rfl rfl rfl rfl rfl rfl, R.bp.to rfl rfl rfl rfl rfl, ?_, ?_, R.bY.to rfl rfl rfl rfl rfl rfl rfl rfl, R.bc.to rfl rfl rfl rfl rfl rfl rfl, R.bi.to rfl rfl rfl rfl rfl rfl rfl rfl rfl rfl⟩
    · exact R.wn.to (fun t => by simp [qii, qil])
    · intro b hb'
      obtain ⟨⟨q1, q2, q3⟩, q4, q5⟩ := R.bt b hb'
      by_cases q : b = t'
      · subst q
        simp [qii, qil, qli, qll]
        exact ⟨hb.2.1, hb.2.2.1⟩
      · simp [qii, qil, qli, qll, q]
        exact ⟨⟨q1, q2, q3⟩, q4, q5⟩
    · refine BZ.up (BZ.to R.bz ?_ rfl rfl rfl rfl rfl rfl) (Nat.le_refl _) (Nat.le_succ _)
      intro t
      simp [qii, qil]
  · exact rdI R0 (ct_X7_terms_bad R.sh hb) (ct_X8_terms_bad hb)
theorem PR.fr {g : qH} {p q : Nat} (P : PR h p q) (e1 : ∀ j, j < 18 → qg_l g 46 0 (p + j) = qg_l h 46 0 (p + j)) (e2 : ∀ k, qg_i g 18 q k = qg_i h 18 q k) (e3 : ∀ j, qg_l g 19 q j = qg_l h 19 q j) (e4 : ∀ j, qg_i g 20 q j = qg_i h 20 q j) (e5 : ∀ j, qg_i g 21 q j = qg_i h 21 q j) : PR g p q := by
  obtain ⟨⟨p1, p2, p3⟩, p4, p5⟩ := P
  refine ⟨⟨?_, ?_, ?_⟩, fun j hj => ⟨?_, ?_, ?_⟩, ?_⟩
  · have := e1 0 (by decide)
    rw [Nat.add_zero] at this
    rw [this, e2]
    exact p1
  · rw [e1 1 (by decide), e2]
    exact p2
  · rw [e1 2 (by decide), e2]
    exact p3
  · rw [Nat.add_assoc, e1 _ (by omega), e3, ← Nat.add_assoc]
    exact (p4 j hj).1
  · rw [Nat.add_assoc, e1 _ (by omega), e4, ← Nat.add_assoc]
    exact (p4 j hj).2.1
  · rw [Nat.add_assoc, e1 _ (by omega), e5, ← Nat.add_assoc]
    exact (p4 j hj).2.2
  · unfold PB
    simp only [e2, e3, e4, e5]
    exact p5
theorem BY.fr {g : qH} {NI : Nat} (H : BY h NI) (e1 : qg_i g 53 = qg_i h 53) (e2 : qg_i g 57 = qg_i h 57) (e3 : qg_i g 58 = qg_i h 58) (hP : ∀ i t r, i < NI → t < 6 → r < 4 → PR h (18 * (24 + 4 * i + r)) (8 * t + 2 * r + 1) → PR g (18 * (24 + 4 * i + r)) (8 * t + 2 * r + 1)) : BY g NI := by
  intro t ht p hp e
  rw [e1] at e
  obtain ⟨a1, a2⟩ := H t ht p hp e
  rw [e2, e3]
  refine ⟨fun q => ?_, a2⟩
  obtain ⟨i0, b1, b2, b3, b4⟩ := a1 q
  exact ⟨i0, b1, b2, b3, fun r hr => hP i0 t r b1 ht hr (b4 r hr)⟩
/-- a row of prices is changed: the other rows stand -/
theorem BP.one {g : qH} {t r : Nat} (H : BP h) (ht : t < 6) (hr : r < 4) (e1 : ∀ i, ¬ (18 * (4 * t + r) ≤ i ∧ i < 18 * (4 * t + r) + 18) → qg_l g 46 0 i = qg_l h 46 0 i) (e2 : ∀ q, q ≠ 8 * t + 2 * r → (∀ k, qg_i g 18 q k = qg_i h 18 q k) ∧ (∀ j, qg_l g 19 q j = qg_l h 19 q j) ∧ (∀ j, qg_i g 20 q j = qg_i h 20 q j) ∧ (∀ j, qg_i g 21 q j = qg_i h 21 q j)) (hP : PR g (18 * (4 * t + r)) (8 * t + 2 * r)) : BP g := by
  intro t' ht' r' hr'
  by_cases q : t' = t ∧ r' = r
  · obtain ⟨rfl, rfl⟩ := q
    exact hP
  · obtain ⟨w1, w2, w3, w4⟩ := e2 (8 * t' + 2 * r') (by omega)
    exact (H t' ht' r' hr').fr (fun j hj => e1 _ (by omega)) w1 w2 w3 w4
theorem BY.one {g : qH} {NI t r : Nat} (H : BY h NI) (ht : t < 6) (hr : r < 4) (f1 : qg_i g 53 = qg_i h 53) (f2 : qg_i g 57 = qg_i h 57) (f3 : qg_i g 58 = qg_i h 58) (e1 : ∀ i, ¬ (18 * (4 * t + r) ≤ i ∧ i < 18 * (4 * t + r) + 18) → qg_l g 46 0 i = qg_l h 46 0 i) (e2 : ∀ q, q ≠ 8 * t + 2 * r → (∀ k, qg_i g 18 q k = qg_i h 18 q k) ∧ (∀ j, qg_l g 19 q j = qg_l h 19 q j) ∧ (∀ j, qg_i g 20 q j = qg_i h 20 q j) ∧ (∀ j, qg_i g 21 q j = qg_i h 21 q j)) : BY g NI :=
  H.fr f1 f2 f3 (fun i t' r' hi ht' hr' P => by
    obtain ⟨w1, w2, w3, w4⟩ := e2 (8 * t' + 2 * r' + 1) (by omega)
    exact P.fr (fun j hj => e1 _ (by omega)) w1 w2 w3 w4)
theorem st_mode (R : RC c h) (t r m z : Int32) : ∃ f, qM yX7_mode cX7_mode 6 ((some .int)) 2 44 0 0 [.inr (.inr (some (1, 0))), .inl t, .inl r, .inl m, .inl z] h (pI f) ∧ ∀ x g, f x g → qM yX8_mode cX8_mode 5 ((some .int)) 1 21 0 0 [.inr (.inr (some (33, 0))), .inl t, .inl r, .inl m, .inl z] g (pI fun y g' => y = x ∧ RC (c + 1) g') := by
  have R0 := R
  obtain ⟨M, NA, NH, NI, R⟩ := R
  by_cases hb : (0 ≤ t ∧ t < 6) ∧ (0 ≤ r ∧ r < 4) ∧ (0 ≤ m ∧ m ≤ 2) ∧ (1 ≤ z ∧ z ≤ 100000)
  · obtain ⟨t', ht, rfl⟩ : ∃ b, b < 6 ∧ t = nI b := ix_of (n := 6) (by decide) hb.1
    obtain ⟨r', hr, rfl⟩ : ∃ b, b < 4 ∧ r = nI b := ix_of (n := 4) (by decide) hb.2.1
    refine wrI (ct_X7_mode_ok R.sh ht hr hb.2.2.1 hb.2.2.2) (ct_X8_mode_ok (R.sr.to rfl) ht hr hb.2.2.1 hb.2.2.2) ⟨M, NA, NH, NI, ?_⟩
    have e1 : ∀ i, ¬ (18 * (4 * t' + r') ≤ i ∧ i < 18 * (4 * t' + r') + 18) → qg_l (qs_l (qs_l (qs_i (qs_i h 18 (8 * t' + 2 * r') 4 m) 18 (8 * t' + 2 * r') 5 z) 46 0 (18 * (4 * t' + r')) m.toInt64) 46 0 (18 * (4 * t' + r') + 1) z.toInt64) 46 0 i = qg_l h 46 0 i := by
      intro i hi
      simp [qll, qli, show i ≠ 18 * (4 * t' + r') + 1 by omega, show i ≠ 18 * (4 * t' + r') by omega]
    have e2 : ∀ q, q ≠ 8 * t' + 2 * r' → ∀ k, qg_i (qs_l (qs_l (qs_i (qs_i h 18 (8 * t' + 2 * r') 4 m) 18 (8 * t' + 2 * r') 5 z) 46 0 (18 * (4 * t' + r')) m.toInt64) 46 0 (18 * (4 * t' + r') + 1) z.toInt64) 18 q k = qg_i h 18 q k := by
      intro q hq k
      simp [qil, qii, hq]
    refine ⟨R.sc.to (by intro k hk; rcases hk with rfl | rfl | rfl | rfl <;> rfl) (by intro k hk; rcases hk with rfl | rfl | rfl | rfl <;> rfl), R.sr.to rfl, R.sh.to rfl, R.sn.to rfl, R.wn.to (fun _ => rfl), R.ba.to rfl rfl rfl rfl, R.bl.to rfl rfl, R.bu.to rfl rfl rfl, (R.bs.to rfl).up (Nat.le_succ _), R.h1.to rfl rfl rfl rfl rfl rfl rfl rfl, R.h2.to rfl rfl, R.h3.to rfl rfl rfl rfl, R.bk.to rfl rfl rfl rfl rfl rfl rfl rfl, ?_, R.bt.to (fun _ => rfl) (fun _ => rfl) (fun _ => rfl) rfl rfl rfl, (R.bz.to (fun _ => rfl) rfl rfl rfl rfl rfl rfl).up (Nat.le_refl _) (Nat.le_succ _), ?_, R.bc.to rfl rfl rfl rfl rfl rfl rfl, R.bi.to rfl rfl rfl rfl rfl rfl rfl rfl rfl rfl⟩
    · refine R.bp.one ht hr e1 (fun q hq => ⟨e2 q hq, fun _ => rfl, fun _ => rfl, fun _ => rfl⟩) ?_
      obtain ⟨⟨p1, p2, p3⟩, p4, p5, p6, p7, p8, p9⟩ := R.bp t' ht r' hr
      refine ⟨⟨?_, ?_, ?_⟩, fun j hj => ?_, ?_⟩
      · simp [qll, qil, qii]
      · simp [qll, qil, qii]
      · simp [qll, qil, qii, qli]
        exact p3
      · have e46 : ∀ i, i ≠ 18 * (4 * t' + r') → i ≠ 18 * (4 * t' + r') + 1 → qg_l (qs_l (qs_l (qs_i (qs_i h 18 (8 * t' + 2 * r') 4 m) 18 (8 * t' + 2 * r') 5 z) 46 0 (18 * (4 * t' + r')) m.toInt64) 46 0 (18 * (4 * t' + r') + 1) z.toInt64) 46 0 i = qg_l h 46 0 i := fun i q1 q2 => by simp [qll, qli, q1, q2]
        obtain ⟨z1, z2, z3⟩ := p4 j hj
        exact ⟨(e46 _ (by omega) (by omega)).trans z1, (e46 _ (by omega) (by omega)).trans z2, (e46 _ (by omega) (by omega)).trans z3⟩
      · refine ⟨?_, ?_, ?_, p8, p9⟩
        · simp [qil, qii]
          exact p5
        · simp [qil, qii]
          exact hb.2.2.2
        · simp [qil, qii]
          exact hb.2.2.1
    · exact R.bY.one ht hr rfl rfl rfl e1 (fun q hq => ⟨e2 q hq, fun _ => rfl, fun _ => rfl, fun _ => rfl⟩)
  · exact rdI R0 (ct_X7_mode_bad R.sh hb) (ct_X8_mode_bad hb)
theorem min_64 (m x : Int32) : m_min m.toInt64 x.toInt64 = (if m < x then m else x).toInt64 := by
  unfold m_min
  have e : x.toInt64 < m.toInt64 ↔ x < m := by rw [Int64.lt_iff_toInt_lt, Int32.lt_iff_toInt_lt, Int32.toInt_toInt64, Int32.toInt_toInt64]
  by_cases q : x < m
  · rw [if_pos (e.mpr q), if_neg (by grind)]
  · rw [if_neg (fun z => q (e.mp z))]
    by_cases z : m < x
    · rw [if_pos z]
    · rw [if_neg z, show m = x by grind]
theorem st_tiers (R : RC c h) (t r m : Int32) : ∃ f, qM yX7_tiers cX7_tiers 5 ((some .int)) 2 44 0 0 [.inr (.inr (some (1, 0))), .inl t, .inl r, .inl m] h (pI f) ∧ ∀ x g, f x g → qM yX8_tiers cX8_tiers 5 ((some .int)) 1 23 0 0 [.inr (.inr (some (33, 0))), .inl t, .inl r, .inl m] g (pI fun y g' => y = x ∧ RC (c + 1) g') := by
  have R0 := R
  obtain ⟨M, NA, NH, NI, R⟩ := R
  by_cases hb : (0 ≤ t ∧ t < 6) ∧ (0 ≤ r ∧ r < 4) ∧ (1 ≤ m ∧ m ≤ 5)
  · obtain ⟨t', ht, rfl⟩ : ∃ b, b < 6 ∧ t = nI b := ix_of (n := 6) (by decide) hb.1
    obtain ⟨r', hr, rfl⟩ : ∃ b, b < 4 ∧ r = nI b := ix_of (n := 4) (by decide) hb.2.1
    obtain ⟨⟨p1, p2, p3⟩, p4, p5, p6, p7, p8, p9⟩ := R.bp t' ht r' hr
    have C8 := ct_X8_tiers_ok (h := qs_i h 18 (8 * t' + 2 * r') 3 (if m < qg_i h 18 (8 * t' + 2 * r') 3 then m else qg_i h 18 (8 * t' + 2 * r') 3)) (R.sr.to rfl) ht hr hb.2.2
    rw [qli, p3, min_64] at C8
    generalize hv : (if m < qg_i h 18 (8 * t' + 2 * r') 3 then m else qg_i h 18 (8 * t' + 2 * r') 3) = v at C8
    have hv2 : ∃ k, k < 5 ∧ v = nI (k + 1) := by
      obtain ⟨k, hk, e⟩ := p5
      rw [← hv]
      split
      · obtain ⟨j, hj, e2⟩ := nI_of2 (x := m) (M := 5) (n := 5) rfl (by grind) hb.2.2.2
        have hj0 : j ≠ 0 := fun q => by
          subst q
          rw [e2] at hb
          exact absurd hb.2.2.1 (by decide)
        obtain ⟨i, rfl⟩ : ∃ i, j = i + 1 := ⟨j - 1, by omega⟩
        exact ⟨i, by omega, e2⟩
      · exact ⟨k, hk, e⟩
    have C7 := ct_X7_tiers_ok R.sh ht hr hb.2.2
    rw [hv] at C7
    rw [Int32.toInt32_toInt64] at C8
    refine wrI C7 C8 ⟨M, NA, NH, NI, ?_⟩
    have e1 : ∀ i, ¬ (18 * (4 * t' + r') ≤ i ∧ i < 18 * (4 * t' + r') + 18) → qg_l (qs_l (qs_i h 18 (8 * t' + 2 * r') 3 v) 46 0 (18 * (4 * t' + r') + 2) v.toInt64) 46 0 i = qg_l h 46 0 i := by
      intro i hi
      simp [qll, qli, show i ≠ 18 * (4 * t' + r') + 2 by omega]
    have e2 : ∀ q, q ≠ 8 * t' + 2 * r' → ∀ k, qg_i (qs_l (qs_i h 18 (8 * t' + 2 * r') 3 v) 46 0 (18 * (4 * t' + r') + 2) v.toInt64) 18 q k = qg_i h 18 q k := by
      intro q hq k
      simp [qil, qii, hq]
    refine ⟨R.sc.to (by intro k hk; rcases hk with rfl | rfl | rfl | rfl <;> rfl) (by intro k hk; rcases hk with rfl | rfl | rfl | rfl <;> rfl), R.sr.to rfl, R.sh.to rfl, R.sn.to rfl, R.wn.to (fun _ => rfl), R.ba.to rfl rfl rfl rfl, R.bl.to rfl rfl, R.bu.to rfl rfl rfl, (R.bs.to rfl).up (Nat.le_succ _), R.h1.to rfl rfl rfl rfl rfl rfl rfl rfl, R.h2.to rfl rfl, R.h3.to rfl rfl rfl rfl, R.bk.to rfl rfl rfl rfl rfl rfl rfl rfl, ?_, R.bt.to (fun _ => rfl) (fun _ => rfl) (fun _ => rfl) rfl rfl rfl, (R.bz.to (fun _ => rfl) rfl rfl rfl rfl rfl rfl).up (Nat.le_refl _) (Nat.le_succ _), ?_, R.bc.to rfl rfl rfl rfl rfl rfl rfl, R.bi.to rfl rfl rfl rfl rfl rfl rfl rfl rfl rfl⟩
    · refine R.bp.one ht hr e1 (fun q hq => ⟨e2 q hq, fun _ => rfl, fun _ => rfl, fun _ => rfl⟩) ?_
      refine ⟨⟨?_, ?_, ?_⟩, fun j hj => ?_, ?_⟩
      · simp [qll, qil, qii, qli]
        exact p1
      · simp [qll, qil, qii, qli]
        exact p2
      · simp [qll, qil, qii]
      · have e46 : ∀ i, i ≠ 18 * (4 * t' + r') + 2 → qg_l (qs_l (qs_i h 18 (8 * t' + 2 * r') 3 v) 46 0 (18 * (4 * t' + r') + 2) v.toInt64) 46 0 i = qg_l h 46 0 i := fun i q1 => by simp [qll, qli, q1]
        obtain ⟨z1, z2, z3⟩ := p4 j hj
        exact ⟨(e46 _ (by omega)).trans z1, (e46 _ (by omega)).trans z2, (e46 _ (by omega)).trans z3⟩
      · refine ⟨?_, ?_, ?_, p8, p9⟩
        · simp [qil, qii]
          exact hv2
        · simp [qil, qii]
          exact p6
        · simp [qil, qii]
          exact p7
    · exact R.bY.one ht hr rfl rfl rfl e1 (fun q hq => ⟨e2 q hq, fun _ => rfl, fun _ => rfl, fun _ => rfl⟩)
  · exact rdI R0 (ct_X7_tiers_bad R.sh hb) (ct_X8_tiers_bad hb)
end ST
