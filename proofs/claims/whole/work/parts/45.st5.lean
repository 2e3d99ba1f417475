/-! Call by call: a new account -/
section AC
variable {c : Nat} {h : qH}
theorem lm4_fr {g : qH} {a : Nat} : ∀ k, qg_n (lm4 g a k) = qg_n g ∧ qg_l (lm4 g a k) = qg_l g ∧ (∀ r, r ≠ 26 → qg_i (lm4 g a k) r = qg_i g r) ∧ ∀ i j, qg_i (lm4 g a k) 26 i j = if i = a ∧ j < k then -1 else qg_i g 26 i j
  | 0 => ⟨rfl, rfl, fun _ _ => rfl, fun i j => by rw [if_neg (fun z => absurd z.2 (Nat.not_lt_zero _))]; rfl⟩
  | k + 1 => by
    obtain ⟨a1, a2, a3, a4⟩ := lm4_fr (g := g) (a := a) k
    refine ⟨a1, a2, fun r hr => ?_, fun i j => ?_⟩
    · show qg_i (qs_i _ 26 a k (-1)) r = _
      rw [fr_ii hr, a3 r hr]
    · show (if 26 = 26 ∧ i = a ∧ j = k then (-1 : Int32) else qg_i (lm4 g a k) 26 i j) = _
      rw [a4]
      by_cases e : i = a
      · by_cases q : j = k
        · rw [if_pos ⟨rfl, e, q⟩, if_pos ⟨e, by omega⟩]
        · have : (j < k + 1) ↔ j < k := by omega
          rw [if_neg (fun z => q z.2.2)]
          simp only [this]
      · rw [if_neg (fun z => e z.2.1), if_neg (fun z => e z.1), if_neg (fun z => e z.1)]
theorem lim4_36 {na : Nat} : ∀ k j, qg_i (lim4 h na k) 36 0 j = if 4 * na ≤ j ∧ j < 4 * na + k then -1 else qg_i h 36 0 j
  | 0, j => by
    rw [if_neg (by omega)]
    rfl
  | k + 1, j => by
    show (if 36 = 36 ∧ 0 = 0 ∧ j = 4 * na + k then (-1 : Int32) else qg_i (lim4 h na k) 36 0 j) = _
    rw [lim4_36 k j]
    by_cases q : j = 4 * na + k
    · rw [if_pos ⟨rfl, rfl, q⟩, if_pos (by omega)]
    · rw [if_neg (fun z => q z.2.2)]
      have : (4 * na ≤ j ∧ j < 4 * na + (k + 1)) ↔ (4 * na ≤ j ∧ j < 4 * na + k) := by omega
      simp only [this]
section AR
variable {NA t : Nat} {o : Option (Nat × Nat)}
theorem ac_r {r : Nat} (e : r ∉ [3, 22, 23]) : qg_r (f_acc h NA t o) r = qg_r h r := by
  simp only [List.mem_cons, List.not_mem_nil, or_false, not_or] at e
  unfold f_acc f_0
  rw [fr_ri, fr_rr e.1, lm4_r]
  unfold f_0a f_mn
  rw [fr_rr e.2.1, fr_rr e.2.1, fr_ri, fr_rr e.2.1, fr_rn, fr_rr e.2.1, fr_rn, fr_rr e.2.1, fr_rr e.2.2, fr_rr e.2.2, fr_rr e.2.2, fr_rr e.2.2, fr_rn, fr_rn, fr_rn, fr_rn, fr_rn, fr_rn]
theorem ac_r22 {i k : Nat} (hi : i ≠ NA) : qg_r (f_acc h NA t o) 22 i k = qg_r h 22 i k := by
  unfold f_acc f_0
  rw [fr_ri, fr_rr (by decide), lm4_r]
  unfold f_0a f_mn
  simp [qrr, qri, qrn, hi]
theorem ac_r22n : qg_r (f_acc h NA t o) 22 NA 1 = some (10, t) ∧ qg_r (f_acc h NA t o) 22 NA 2 = o ∧ qg_r (f_acc h NA t o) 22 NA 3 = some (23, NA) ∧ qg_r (f_acc h NA t o) 22 NA 4 = some (25, NA) ∧ qg_r (f_acc h NA t o) 22 NA 5 = some (26, NA) := by
  unfold f_acc f_0
  rw [fr_ri, fr_rr (by decide), lm4_r]
  unfold f_0a f_mn
  simp [qrr, qri, qrn]
theorem ac_r23 {i k : Nat} (hi : i ≠ NA) : qg_r (f_acc h NA t o) 23 i k = qg_r h 23 i k := by
  unfold f_acc f_0
  rw [fr_ri, fr_rr (by decide), lm4_r]
  unfold f_0a f_mn
  simp [qrr, qri, qrn, hi]
theorem ac_r23n {k : Nat} (hk : k < 4) : qg_r (f_acc h NA t o) 23 NA k = some (24, 4 * NA + k) := by
  unfold f_acc f_0
  rw [fr_ri, fr_rr (by decide), lm4_r]
  unfold f_0a f_mn
  rcases (show k = 0 ∨ k = 1 ∨ k = 2 ∨ k = 3 by omega) with rfl | rfl | rfl | rfl <;> simp [qrr, qri, qrn]
theorem ac_r3 {i : Nat} : qg_r (f_acc h NA t o) 3 0 i = if i = NA then some (22, NA) else qg_r h 3 0 i := by
  by_cases e : i = NA
  · rw [if_pos e, e]
    unfold f_acc
    rw [fr_ri]
    simp [qrr]
  · rw [if_neg e]
    unfold f_acc f_0
    rw [fr_ri]
    simp only [qrr, e, and_false, if_false]
    rw [lm4_r]
    unfold f_0a f_mn
    simp [qrr, qri, qrn]
theorem ac_i {r : Nat} (e : r ∉ [1, 22, 26]) : qg_i (f_acc h NA t o) r = qg_i h r := by
  simp only [List.mem_cons, List.not_mem_nil, or_false, not_or] at e
  unfold f_acc f_0
  rw [fr_ii e.1, fr_ir, (lm4_fr 4).2.2.1 r e.2.2]
  unfold f_0a f_mn
  rw [fr_ir, fr_ir, fr_ii e.2.1]
  rfl
theorem ac_i1 {k : Nat} : qg_i (f_acc h NA t o) 1 0 k = if k = 6 then nI (NA + 1) else qg_i h 1 0 k := by
  unfold f_acc f_0
  by_cases e : k = 6
  · rw [if_pos e, e]
    simp [qii]
  · rw [if_neg e]
    simp only [qii, e, and_false, if_false]
    rw [fr_ir, (lm4_fr 4).2.2.1 1 (by decide)]
    rfl
theorem ac_i22 {i k : Nat} : qg_i (f_acc h NA t o) 22 i k = if 22 = 22 ∧ i = NA ∧ k = 0 then nI NA else qg_i h 22 i k := by
  unfold f_acc f_0
  rw [fr_ii (by decide), fr_ir, (lm4_fr 4).2.2.1 22 (by decide)]
  rfl
theorem ac_i26 {i k : Nat} : qg_i (f_acc h NA t o) 26 i k = if i = NA ∧ k < 4 then -1 else qg_i h 26 i k := by
  unfold f_acc f_0
  rw [fr_ii (by decide), fr_ir, (lm4_fr 4).2.2.2 i k]
  rfl
theorem ac_l : qg_l (f_acc h NA t o) = qg_l h := by
  unfold f_acc f_0
  show qg_l (lm4 (f_0a (qs_n h 22) NA (nI NA) (some (10, t)) o) NA 4) = _
  rw [(lm4_fr 4).2.1]
  rfl
theorem ac_n {r : Nat} : qg_n (f_acc h NA t o) r = if r = 22 ∨ r = 23 ∨ r = 25 ∨ r = 26 then qg_n h r + 1 else if r = 24 then qg_n h r + 4 else qg_n h r := by
  unfold f_acc f_0
  show qg_n (lm4 (f_0a (qs_n h 22) NA (nI NA) (some (10, t)) o) NA 4) r = _
  rw [(lm4_fr 4).1]
  by_cases e1 : r = 22
  · subst e1; rfl
  · by_cases e2 : r = 23
    · subst e2; rfl
    · by_cases e3 : r = 24
      · subst e3; rfl
      · by_cases e4 : r = 25
        · subst e4; rfl
        · by_cases e5 : r = 26
          · subst e5; rfl
          · simp [f_0a, f_mn, qg_n, qs_n, qs_r, qs_i, e1, e2, e3, e4, e5]
end AR
def m_acc (h : qH) (NA t : Nat) (inn : Int32) : qH := qs_i (lim4 (qs_i (qs_i h 34 0 NA (nI t)) 35 0 NA inn) NA 4) 33 0 1 (nI (NA + 1))
section AM
variable {NA t : Nat} {inn : Int32}
theorem ma_i {r : Nat} (e : r ∉ [33, 34, 35, 36]) : qg_i (m_acc h NA t inn) r = qg_i h r := by
  simp only [List.mem_cons, List.not_mem_nil, or_false, not_or] at e
  unfold m_acc
  rw [fr_ii e.1, (lim4_n 4).2.2.2 r e.2.2.2, fr_ii e.2.2.1, fr_ii e.2.1]
theorem ma_33 {k : Nat} (hk : k ≠ 1) : qg_i (m_acc h NA t inn) 33 0 k = qg_i h 33 0 k := by
  unfold m_acc
  simp only [qii, hk, and_false, if_false]
  rw [(lim4_n 4).2.2.2 33 (by decide), fr_ii (by decide), fr_ii (by decide)]
theorem ma_331 : qg_i (m_acc h NA t inn) 33 0 1 = nI (NA + 1) := rfl
theorem ma_34 {i : Nat} : qg_i (m_acc h NA t inn) 34 0 i = if 34 = 34 ∧ 0 = 0 ∧ i = NA then nI t else qg_i h 34 0 i := by
  unfold m_acc
  rw [fr_ii (by decide), (lim4_n 4).2.2.2 34 (by decide), fr_ii (by decide)]
  rfl
theorem ma_35 {i : Nat} : qg_i (m_acc h NA t inn) 35 0 i = if 35 = 35 ∧ 0 = 0 ∧ i = NA then inn else qg_i h 35 0 i := by
  unfold m_acc
  rw [fr_ii (by decide), (lim4_n 4).2.2.2 35 (by decide)]
  rfl
theorem ma_36 {i : Nat} : qg_i (m_acc h NA t inn) 36 0 i = if 4 * NA ≤ i ∧ i < 4 * NA + 4 then -1 else qg_i h 36 0 i := by
  unfold m_acc
  rw [fr_ii (by decide), lim4_36, fr_ii (by decide), fr_ii (by decide)]
theorem ma_r : qg_r (m_acc h NA t inn) = qg_r h ∧ qg_l (m_acc h NA t inn) = qg_l h ∧ qg_n (m_acc h NA t inn) = qg_n h := by
  have L := lim4_n (h := qs_i (qs_i h 34 0 NA (nI t)) 35 0 NA inn) (na := NA) 4
  exact ⟨L.2.1, L.2.2.1, L.1⟩
end AM
theorem sm_l_zero {f : Nat → Int64} : ∀ {n : Nat}, (∀ i, i < n → f i = 0) → sm_l f n = 0
  | 0, _ => rfl
  | n + 1, e => by
    show sm_l f n + f n = 0
    rw [sm_l_zero (fun i hi => e i (by omega)), e n (by omega)]
    rfl
theorem sm_i_zero {f : Nat → Int32} : ∀ {n : Nat}, (∀ i, i < n → f i = 0) → sm_i f n = 0
  | 0, _ => rfl
  | n + 1, e => by
    show sm_i f n + f n = 0
    rw [sm_i_zero (fun i hi => e i (by omega)), e n (by omega)]
    rfl
theorem RD.acc {M NA NH NI t : Nat} {o : Option (Nat × Nat)} {inn : Int32} (R : RD c h M NA NH NI) (Z : FRZ h) (hn : NA < 24) (ht : t < 6) (hin : (o = none ∧ inn = -1) ∨ ∃ b, b < NA ∧ o = some (22, b) ∧ inn = nI b ∧ ow h b = t) : RD (c + 1) (m_acc (f_acc h NA t o) NA t inn) M (NA + 1) NH NI := by
  obtain ⟨ma1, ma2, ma3⟩ := ma_r (h := f_acc h NA t o) (NA := NA) (t := t) (inn := inn)
  have Er : ∀ k, k ∉ [3, 22, 23] → qg_r (m_acc (f_acc h NA t o) NA t inn) k = qg_r h k := fun k hk => by rw [ma1, ac_r hk]
  have r22 : ∀ i k, i ≠ NA → qg_r (m_acc (f_acc h NA t o) NA t inn) 22 i k = qg_r h 22 i k := fun i k hi => by rw [ma1, ac_r22 hi]
  have r23 : ∀ i k, i ≠ NA → qg_r (m_acc (f_acc h NA t o) NA t inn) 23 i k = qg_r h 23 i k := fun i k hi => by rw [ma1, ac_r23 hi]
  have r23n : ∀ k, k < 4 → qg_r (m_acc (f_acc h NA t o) NA t inn) 23 NA k = some (24, 4 * NA + k) := fun k hk => by rw [ma1, ac_r23n hk]
  have r3 : ∀ i, qg_r (m_acc (f_acc h NA t o) NA t inn) 3 0 i = if i = NA then some (22, NA) else qg_r h 3 0 i := fun i => by rw [ma1, ac_r3]
  obtain ⟨v1, v2, v3, v4, v5⟩ := ac_r22n (h := h) (NA := NA) (t := t) (o := o)
  rw [← ma1] at v1 v2 v3 v4 v5
  have El : ∀ k, k ∉ ([] : List Nat) → qg_l (m_acc (f_acc h NA t o) NA t inn) k = qg_l h k := fun k _ => by rw [ma2, ac_l]
  have En : ∀ k, qg_n (m_acc (f_acc h NA t o) NA t inn) k = if k = 22 ∨ k = 23 ∨ k = 25 ∨ k = 26 then qg_n h k + 1 else if k = 24 then qg_n h k + 4 else qg_n h k := fun k => by rw [ma3, ac_n]
  have Ei : ∀ k, k ∉ [1, 22, 26, 33, 34, 35, 36] → qg_i (m_acc (f_acc h NA t o) NA t inn) k = qg_i h k := fun k hk => by
    simp only [List.mem_cons, List.not_mem_nil, or_false, not_or] at hk
    rw [ma_i (by simp only [List.mem_cons, List.not_mem_nil, or_false, not_or]; omega), ac_i (by simp only [List.mem_cons, List.not_mem_nil, or_false, not_or]; omega)]
  have i1 : ∀ k, qg_i (m_acc (f_acc h NA t o) NA t inn) 1 0 k = if k = 6 then nI (NA + 1) else qg_i h 1 0 k := fun k => by rw [ma_i (by decide), ac_i1]
  have i22 : ∀ i, qg_i (m_acc (f_acc h NA t o) NA t inn) 22 i 0 = if i = NA then nI NA else qg_i h 22 i 0 := fun i => by
    rw [ma_i (by decide), ac_i22]
    simp
  have i26 : ∀ i k, qg_i (m_acc (f_acc h NA t o) NA t inn) 26 i k = if i = NA ∧ k < 4 then -1 else qg_i h 26 i k := fun i k => by rw [ma_i (by decide), ac_i26]
  have i33 : ∀ k, k ≠ 1 → qg_i (m_acc (f_acc h NA t o) NA t inn) 33 0 k = qg_i h 33 0 k := fun k hk => by rw [ma_33 hk, ac_i (by decide)]
  have i331 : qg_i (m_acc (f_acc h NA t o) NA t inn) 33 0 1 = nI (NA + 1) := ma_331
  have i34 : ∀ i, qg_i (m_acc (f_acc h NA t o) NA t inn) 34 0 i = if i = NA then nI t else qg_i h 34 0 i := fun i => by
    rw [ma_34, ac_i (by decide)]
    simp
  have i35 : ∀ i, qg_i (m_acc (f_acc h NA t o) NA t inn) 35 0 i = if i = NA then inn else qg_i h 35 0 i := fun i => by
    rw [ma_35, ac_i (by decide)]
    simp
  have i36 : ∀ i, qg_i (m_acc (f_acc h NA t o) NA t inn) 36 0 i = if 4 * NA ≤ i ∧ i < 4 * NA + 4 then -1 else qg_i h 36 0 i := fun i => by rw [ma_36, ac_i (by decide)]
  generalize m_acc (f_acc h NA t o) NA t inn = G at *
  have E330 := i33 0 (by decide)
  have E336 := i33 6 (by decide)
  have p0 : ∀ a, a < NA → par G a = par h a := fun a ha => by
    unfold par
    rw [r22 a 2 (by omega)]
  have p1 : par G NA = inn := by
    unfold par
    rw [v2]
    rcases hin with ⟨rfl, rfl⟩ | ⟨b, hb, rfl, rfl, -⟩ <;> rfl
  have w0 : ∀ a, a < NA → ow G a = ow h a := fun a ha => by
    unfold ow
    rw [r22 a 1 (by omega)]
  have w1 : ow G NA = t := by
    unfold ow
    rw [v1]
  have WOG : WO G (NA + 1) := fun a ha => by
    by_cases e : a = NA
    · subst e
      rw [v2]
      rcases hin with ⟨rfl, -⟩ | ⟨b, hb, rfl, -⟩
      · exact Or.inl rfl
      · exact Or.inr ⟨b, hb, rfl⟩
    · rw [r22 a 2 e]
      exact R.ba.1 a (by omega)
  have BAG : BA G (NA + 1) := by
    refine ⟨WOG, fun a ha => ?_, fun a ha => ?_⟩
    · by_cases e : a = NA
      · subst e
        exact ⟨t, ht, v1⟩
      · rw [r22 a 1 e]
        exact R.ba.2.1 a (by omega)
    · by_cases e : a = NA
      · subst e
        rw [i22, if_pos rfl, i34, if_pos rfl, i35, if_pos rfl, p1, w1, v2]
        refine ⟨rfl, rfl, rfl, fun b hb => ?_⟩
        rcases hin with ⟨rfl, -⟩ | ⟨b', hb', rfl, -, q⟩
        · cases hb
        · cases hb
          rw [w0 b hb', q]
      · obtain ⟨q1, q2, q3, q4⟩ := R.ba.2.2 a (by omega)
        rw [i22, if_neg e, i34, if_neg e, i35, if_neg e, p0 a (by omega), w0 a (by omega), r22 a 2 e]
        refine ⟨q1, q2, q3, fun b hb => ?_⟩
        have : b < NA := by
          rcases R.ba.1 a (by omega) with z | ⟨b', hb', z⟩
          · rw [z] at hb
            cases hb
          · rw [z] at hb
            cases hb
            omega
        rw [w0 b this]
        exact q4 b hb
  have lyq : ∀ a, a < NA → ∀ b, ly (qg_i G 35 0) a b = ly (qg_i h 35 0) a b := ly_ext (by omega) R.wi (fun a ha => by rw [i35, if_neg (by omega)])
  have lyp : ∀ a, a < NA → ∀ b, ly (par G) a b = ly (par h) a b := ly_ext (by omega) R.ba.1.wi p0
  have z37 : ∀ r, r < 4 → ∀ p, p < 100 → qg_l h 37 0 ((4 * NA + r) * 100 + p) = 0 := fun r hr p hp => by
    obtain ⟨s, s1, s2, s3⟩ := R.bs r hr p hp
    rw [s1 NA hn, s2 NA (Nat.le_refl _)]
    rfl
  refine ⟨?_, R.sr.to (Er 33 (by decide)), ?_, ?_, R.wn.to (fun t => congrFun (congrFun (Ei 10 (by decide)) t) 0), ?_, ?_, ?_, ?_, ?_, ?_, ?_, R.bk.to (congrFun (congrFun (Ei 6 (by decide)) 0) 3) E336 (El 7 (by decide)) (Ei 8 (by decide)) (Ei 9 (by decide)) (El 38 (by decide)) (Ei 39 (by decide)) (Ei 40 (by decide)), R.bp.to (El 46 (by decide)) (Ei 18 (by decide)) (El 19 (by decide)) (Ei 20 (by decide)) (Ei 21 (by decide)), R.bt.to (fun t => congrFun (congrFun (Ei 10 (by decide)) t) 7) (fun t => congrFun (congrFun (El 10 (by decide)) t) 8) (fun t => congrFun (congrFun (Ei 10 (by decide)) t) 9) (Ei 47 (by decide)) (El 48 (by decide)) (Ei 49 (by decide)), (R.bz.to (fun t => congrFun (congrFun (Ei 10 (by decide)) t) 6) (Ei 53 (by decide)) (Ei 56 (by decide)) (El 13 (by decide)) (El 14 (by decide)) (El 54 (by decide)) (El 55 (by decide))).up (Nat.le_refl _) (Nat.le_succ _), R.bY.to (Ei 53 (by decide)) (Ei 57 (by decide)) (Ei 58 (by decide)) (El 46 (by decide)) (Ei 18 (by decide)) (El 19 (by decide)) (Ei 20 (by decide)) (Ei 21 (by decide)), R.bc.to (Ei 15 (by decide)) (Ei 50 (by decide)) (Ei 17 (by decide)) (Ei 52 (by decide)) (Ei 53 (by decide)) (El 16 (by decide)) (El 51 (by decide)), R.bi.to (Ei 28 (by decide)) (Ei 57 (by decide)) (Ei 58 (by decide)) (Ei 59 (by decide)) (Ei 29 (by decide)) (Ei 30 (by decide)) (El 28 (by decide)) (El 31 (by decide)) (El 32 (by decide)) (El 60 (by decide))⟩
  · refine ⟨⟨R.sc.1.1, by omega, R.nh, R.ni⟩, ⟨?_, ?_, ?_, ?_⟩, ?_, i331, ?_, ?_⟩
    · rw [i1]; exact R.sc.2.1.1
    · rw [i1]; rfl
    · rw [i1]; exact R.sc.2.1.2.2.1
    · rw [i1]; exact R.sc.2.1.2.2.2
    · rw [i33 0 (by decide)]; exact R.sc.2.2.1
    · rw [i33 10 (by decide)]; exact R.sc.2.2.2.2.1
    · rw [i33 27 (by decide)]; exact R.sc.2.2.2.2.2
  · have S := R.sh
    unfold SHC at S ⊢
    rw [Er 1 (by decide), Er 6 (by decide), Er 2 (by decide), Er 10 (by decide), Er 15 (by decide), Er 11 (by decide), Er 12 (by decide), Er 18 (by decide), Er 4 (by decide), Er 5 (by decide), Er 28 (by decide)]
    refine ⟨S.1, S.2.1, S.2.2.1, S.2.2.2.1, fun a ha => ?_, S.2.2.2.2.2⟩
    by_cases e : a = NA
    · subst e
      rw [r3, if_pos rfl]
      exact ⟨rfl, v3, v4, v5, r23n⟩
    · rw [r3, if_neg e, r22 a 3 e, r22 a 4 e, r22 a 5 e]
      obtain ⟨s1, s2, s3, s4, s5⟩ := S.2.2.2.2.1 a (by omega)
      exact ⟨s1, s2, s3, s4, fun k hk => by rw [r23 a k e]; exact s5 k hk⟩
  · obtain ⟨⟨n1, n2, n3, n4, n5⟩, n6, n7⟩ := R.sn
    unfold SN
    simp only [En]
    refine ⟨⟨?_, ?_, ?_, ?_, ?_⟩, n6, n7⟩
    · show qg_n h 22 + 1 = _
      rw [n1]
    · show qg_n h 23 + 1 = _
      rw [n2]
    · show qg_n h 24 + 4 = _
      rw [n3]
      omega
    · show qg_n h 25 + 1 = _
      rw [n4]
    · show qg_n h 26 + 1 = _
      rw [n5]
  · exact BAG
  · intro a ha r hr
    rw [i26, i36]
    by_cases e : a = NA
    · rw [if_pos ⟨e, hr⟩, if_pos (by omega)]
    · rw [if_neg (fun z => e z.1), if_neg (by omega)]
      exact R.bl a (by omega) r hr
  · intro a ha r hr p hp
    have e37 : qg_l G 37 = qg_l h 37 := El 37 (by decide)
    have e24 : qg_l G 24 = qg_l h 24 := El 24 (by decide)
    have f0 : m_used G (NA + 1) a r p = sm_l (fun b => if ly (qg_i h 35 0) b a then qg_l h 37 0 ((4 * b + r) * 100 + p) else 0) NA := by
      unfold m_used
      rw [e37]
      show sm_l _ NA + (if ly (qg_i G 35 0) NA a = true then qg_l h 37 0 ((4 * NA + r) * 100 + p) else 0) = _
      rw [z37 r hr p hp]
      have : (if ly (qg_i G 35 0) NA a = true then (0 : Int64) else 0) = 0 := by split <;> rfl
      rw [this]
      rw [sm_l_congr (g := fun b => if ly (qg_i h 35 0) b a then qg_l h 37 0 ((4 * b + r) * 100 + p) else 0) (fun b hb => by simp only [lyq b hb])]
      grind
    rw [f0, e24]
    by_cases e : a = NA
    · subst e
      rw [sm_l_zero (fun b hb => ?_)]
      · exact (Z 24 (4 * a + r) p (by rw [R.sn.1.2.2.1]; omega)).2.1
      · have : ly (qg_i h 35 0) b a = false := by
          cases q : ly (qg_i h 35 0) b a with
          | false => rfl
          | true =>
            have := ly_le (by omega) R.wi hb q
            omega
        rw [this]
        rfl
    · exact R.bu a (by omega) r hr p hp
  · intro r hr p hp
    obtain ⟨s, s1, s2, s3⟩ := R.bs r hr p hp
    refine ⟨s, fun a ha => ?_, fun a ha => s2 a (by omega), Nat.le_trans s3 (Nat.mul_le_mul_right _ (Nat.le_succ _))⟩
    rw [El 37 (by decide)]
    exact s1 a ha
  · have hu0 : ∀ i, hu_ G i = hu_ h i := fun i => by
      unfold hu_
      rw [Er 27 (by decide)]
    have hr0 : ∀ i, hr_ G i = hr_ h i := fun i => by
      unfold hr_
      rw [Ei 27 (by decide)]
    refine ⟨fun i hi => ?_, fun i hi => ?_⟩
    · obtain ⟨q1, q2, q3, q4⟩ := R.h1.1 i hi
      rw [hu0, hr0, Er 27 (by decide), Ei 27 (by decide)]
      exact ⟨by omega, q2, q3, q4⟩
    · have := R.h1.2 i hi
      unfold m_open at this ⊢
      rw [hu0, Ei 41 (by decide), Ei 42 (by decide), Ei 43 (by decide), Ei 44 (by decide), Ei 45 (by decide), Ei 27 (by decide), E330]
      exact this
  · refine R.h2.to ?_ (Ei 27 (by decide))
    rw [i1]
    rfl
  · intro b hb r hr
    have hu0 : ∀ i, hu_ G i = hu_ h i := fun i => by
      unfold hu_
      rw [Er 27 (by decide)]
    have hr0 : ∀ i, hr_ G i = hr_ h i := fun i => by
      unfold hr_
      rw [Ei 27 (by decide)]
    rw [Ei 25 (by decide)]
    by_cases e : b = NA
    · subst e
      rw [(Z 25 b r (by rw [R.sn.1.2.2.2.1]; omega)).1, sm_i_zero (fun i hi => ?_)]
      unfold hC
      rw [hu0, if_neg]
      intro z
      have := R.h1.1 i hi
      rw [lyp _ this.1] at z
      have := ly_le (by omega) R.ba.1.wi this.1 z.2.2
      omega
    · rw [R.h3 b (by omega) r hr]
      refine sm_i_congr (fun i hi => ?_)
      unfold hC
      rw [hu0, hr0, Ei 27 (by decide), lyp _ (R.h1.1 i hi).1]
theorem st_account (R : RC c h) (Z : FRZ h) (t inn : Int32) : ∃ f, qM yX7_account cX7_account 5 ((some .int)) 2 44 8 418 [.inr (.inr (some (1, 0))), .inl t, .inl inn] h (pI f) ∧ ∀ x g, f x g → qM yX8_account cX8_account 4 ((some .int)) 1 21 0 0 [.inr (.inr (some (33, 0))), .inl t, .inl inn] g (pI fun y g' => y = x ∧ RC (c + 1) g') := by
  have R0 := R
  obtain ⟨M, NA, NH, NI, R⟩ := R
  have e34 : ∀ b, b < NA → qg_i h 34 0 b = nI (ow h b) := fun b hb => (R.ba.2.2 b hb).2.1
  by_cases hb : (0 ≤ t ∧ t < 6) ∧ (inn = -1 ∨ ∃ b, b < NA ∧ inn = nI b ∧ nI (ow h b) = t)
  · obtain ⟨h1, h2⟩ := hb
    obtain ⟨t', ht, rfl⟩ : ∃ b, b < 6 ∧ t = nI b := ix_of (n := 6) (by decide) h1
    have h2' : inn = -1 ∨ ∃ b, b < NA ∧ inn = nI b ∧ ow h b = t' := h2.imp id (fun ⟨b, hb, q1, q2⟩ => ⟨b, hb, q1, by
      have := (R.ba.2.1.o2 hb).1
      exact (nI_eq (by omega) (by omega)).mp q2⟩)
    by_cases hf : NA = 24
    · subst hf
      refine rdI R0 (ct_X7_account_full R.sh R.sc.2.1.2.1 R.ba.2.1 R.wn ht h2') (ct_X8_account_full R.sr R.sc.2.2.2.1 ht (h2'.imp id (fun ⟨b, hb, q1, q2⟩ => ⟨b, hb, q1, by rw [e34 b hb, q2]⟩)))
    · have hn : NA < 24 := by have := R.na; omega
      obtain ⟨⟨n1, n2, n3, n4, n5⟩, -⟩ := R.sn
      rcases h2' with rfl | ⟨b, hb, rfl, hbt⟩
      · refine wrI (ct_X7_account_root R.sh R.sc.2.1.2.1 hn n1 n2 n3 n4 n5 ht) (ct_X8_account_ok (h := f_acc h NA t' none) (R.sr.to (ac_r (by decide))) (by rw [ac_i (by decide)]; exact R.sc.2.2.2.1) hn ht (Or.inl rfl)) ⟨M, NA + 1, NH, NI, R.acc Z hn ht (Or.inl ⟨rfl, rfl⟩)⟩
      · refine wrI (ct_X7_account_in R.sh R.sc.2.1.2.1 hn R.ba.2.1 R.wn n1 n2 n3 n4 n5 ht hb hbt) (ct_X8_account_ok (h := f_acc h NA t' (some (22, b))) (R.sr.to (ac_r (by decide))) (by rw [ac_i (by decide)]; exact R.sc.2.2.2.1) hn ht (Or.inr ⟨b, hb, rfl, by rw [ac_i (by decide), e34 b hb, hbt]⟩)) ⟨M, NA + 1, NH, NI, R.acc Z hn ht (Or.inr ⟨b, hb, rfl, rfl, hbt⟩)⟩
  · refine rdI R0 (ct_X7_account_bad R.sh R.sc.2.1.2.1 R.na R.ba.2.1 R.wn hb) (ct_X8_account_bad R.sr R.sc.2.2.2.1 R.na (fun q => hb ⟨q.1, q.2.imp id (fun ⟨b, hb, q1, q2⟩ => ⟨b, hb, q1, by rw [← e34 b hb]; exact q2⟩)⟩))
end AC
