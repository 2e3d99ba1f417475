/-! Call by call: events, holds that settle -/
section ES
variable {c : Nat} {h : qH}
theorem i32_nat {x : Int32} (q : 0 ≤ x) : ∃ n, n < 2 ^ 31 ∧ x = nI n := by
  have h1 := Int32.le_iff_toInt_le.mp q
  have h2 : (0 : Int32).toInt = 0 := rfl
  have h3 := x.toInt_lt
  refine ⟨x.toInt.toNat, by omega, ?_⟩
  apply Int32.toInt_inj.mp
  rw [nI_toInt (by omega)]
  omega
def AG (h g : qH) : Prop := qg_r g = qg_r h ∧ (∀ k, k ∉ [1, 6, 8, 9, 25, 27] → qg_i g k = qg_i h k) ∧ ∀ k, k ∉ [7, 13, 14, 24] → qg_l g k = qg_l h k
theorem CEV.ag {g : qH} {nc a r p t : Nat} {e : Int64 × Int32 × Int32} {u d : Int64} {ad : Bool} (C : CEV h g nc e a r p t u d ad) : AG h g := by
  refine ⟨C.1.1, fun k hk => C.2.1 k ?_, C.2.2.1⟩
  simp only [List.mem_cons, List.not_mem_nil, or_false, not_or] at hk ⊢
  omega
theorem RD.evc {M NA NH NI a r U m : Nat} {key : Int64} (R : RD c h M NA NH NI) (hc : c < 512) (ha : a < NA) (hr : r < 4) (hU : 1 ≤ U ∧ U ≤ 1000000) (hm : m ≤ M ∧ M ≤ m + 500) : ∃ nk t, t < 6 ∧ qg_i h 33 0 6 = nI nk ∧ nk ≤ 300 ∧ ((∃ v : Int32, v < 0 ∧ qM yX7_event cX7_event 8 ((some .int)) 5 124 0 0 [.inr (.inr (some (1, 0))), .inr (.inl key), .inl (nI a), .inl (nI r), .inl (nI U), .inl (nI m)] h (pI fun x h' => x = v ∧ h' = h) ∧ qM yX8_come cX8_come 10 ((some .int)) 3 90 0 0 [.inr (.inr (some (33, 0))), .inr (.inl key), .inl (nI a), .inl (nI r), .inl (nI U), .inl (nI m)] h (pI fun x g => x = v ∧ ∃ ng, FG h nk g ng)) ∨ ∃ (v : Int32) (g : qH) (d : Int64) (ad : Bool) (nc p : Nat), ¬ v < 0 ∧ p < 100 ∧ qg_i h 6 0 3 = nI nc ∧ nc < 300 ∧ ab d ≤ CB ∧ CEV h g nc (key, nI t, nI m) a r p t (nL U) d ad ∧ qM yX7_event cX7_event 8 ((some .int)) 5 124 0 0 [.inr (.inr (some (1, 0))), .inr (.inl key), .inl (nI a), .inl (nI r), .inl (nI U), .inl (nI m)] h (pI fun x h' => x = v ∧ h' = g) ∧ ∀ g', AG h g' → qM yX8_come cX8_come 10 ((some .int)) 3 90 0 0 [.inr (.inr (some (33, 0))), .inr (.inl key), .inl (nI a), .inl (nI r), .inl (nI U), .inl (nI m)] g' (pI fun x G => x = v ∧ MEV g' G M nk (key, nI t, nI m) ((4 * a + r) * 100 + p) (4 * t + r) (nL U) d ad)) := by
  obtain ⟨nc, nk, ⟨k1, k2⟩, ⟨k3, k4⟩, k5, k6⟩ := R.bk
  have hM := R.sc.1.1
  have o2 := R.ba.2.1.o2 ha
  have e1 : qg_i h 1 0 5 = nI M := R.sc.2.1.1
  have e2 : qg_i h 33 0 0 = nI M := R.sc.2.2.1
  have e34 : qg_i h 34 0 a = nI (ow h a) := (R.ba.2.2 a ha).2.1
  have u1 : (1 : Int32) ≤ nI U ∧ nI U ≤ 1000000 := ⟨nI_le (a := 1) hU.1 (by omega), nI_le (b := 1000000) hU.2 (by omega)⟩
  have m0 : 0 ≤ nI m := nI_le (a := 0) (Nat.zero_le _) (by omega)
  have m1 : nI m ≤ qg_i h 1 0 5 := by
    rw [e1]
    exact nI_le hm.1 (by omega)
  have m2 : qg_i h 1 0 5 - nI m ≤ 500 := by
    rw [e1, show M = m + (M - m) by omega, nI_minus]
    exact nI_le (b := 500) (by omega) (by omega)
  have m3 : qg_i h 33 0 0 - 500 ≤ nI m := by
    rw [e2]
    by_cases q : 500 ≤ M
    · rw [show M = 500 + (M - 500) by omega]
      rw [show (500 : Int32) = nI 500 from rfl, nI_minus]
      exact nI_le (by omega) (by omega)
    · rw [Int32.le_iff_toInt_le, nI_toInt (by omega), Int32.toInt_sub, nI_toInt (by omega)]
      have : (500 : Int32).toInt = 500 := rfl
      rw [this, Int.bmod_eq_of_le (by omega) (by omega)]
      omega
  have fl : ((kl h 38 39 40 nk).filter (fun e => qg_i h 33 0 0 < e.2.2 + 1000)) = kl h 7 8 9 nc := by rw [alv_eq e2, k5]
  refine ⟨nk, ow h a, o2.1, k3, k4, ?_⟩
  by_cases hk : kn (kl h 7 8 9 nc) key (nI (ow h a))
  · left
    exact ⟨-6, by decide, ct_X7_event_dup R.sh R.sc.2.1.2.1 R.na ha hr u1 m0 m1 m2 R.ba.2.1 R.wn k1 k2 hk, ct_X8_come_dup R.sr R.na ha e34 k3 k4 (by rw [e2, ← e1]; exact m1) m3 (by rw [fl]; exact hk)⟩
  · by_cases hf : nc = 300
    · left
      subst hf
      exact ⟨-3, by decide, ct_X7_event_full R.sh R.sc.2.1.2.1 R.na ha hr u1 m0 m1 m2 R.ba.2.1 R.wn k1 hk, ct_X8_come_full R.sr R.na ha e34 k3 k4 (by rw [e2, ← e1]; exact m1) m3 (by rw [fl]; exact hk) (by rw [fl, kl_len])⟩
    · right
      obtain ⟨⟨p0, p1, p2, p3⟩, -⟩ := R.bz (ow h a) o2.1
      have ep : nI m / 1000 = nI (m / 1000) := nI_div (by omega)
      have hp : m / 1000 < 100 := by omega
      have eU : (nI U).toInt64 = nL U := nI_i64 (by omega)
      have gm : ∀ g', AG h g' → qg_i g' 33 0 0 = nI M := fun g' A => by rw [A.2.1 33 (by decide)]; exact e2
      have gf : ∀ g', AG h g' → ((kl g' 38 39 40 nk).filter (fun e => qg_i g' 33 0 0 < e.2.2 + 1000)) = kl h 7 8 9 nc := fun g' A => by
        rw [← fl, A.2.1 33 (by decide)]
        unfold kl
        rw [A.2.2 38 (by decide), A.2.1 39 (by decide), A.2.1 40 (by decide)]
      by_cases hcl : p0 ≤ m / 1000
      · have C7 := ct_X7_event_ok (NA := NA) (NH := NH) (NI := NI) (h := h) (key := key) (a := a) (r := r) (u := nI U) (mi := nI m) R.sh R.sc.2.1.2.1 R.na ha hr u1 m0 m1 m2 R.ba.2.1 R.wn k1 (by omega) hk ep (ct_X7_countUnits_new (NA := NA) (NH := NH) (NI := NI) (h := f_put h nc key (nI (ow h a)) (nI m)) (a := a) (r := r) (p := m / 1000) (u := nI U) (R.sh.to rfl) R.na R.ba.1 R.ba.2.1 ha hr hp (by
          show qg_i (f_put h nc key (nI (ow h a)) (nI m)) 10 (ow h a) 6 ≤ _
          rw [put_i (by decide), p2]
          exact nI_le hcl (by omega)))
        rw [eU] at C7
        refine ⟨0, _, 0, false, nc, m / 1000, by decide, hp, k1, by omega, by decide, cev_new, C7, fun g' A => ?_⟩
        have C8 := ct_X8_come_ok (h := g') (na := NA) (nk := nk) (a := a) (t := ow h a) (r := r) (p := m / 1000) (key := key) (u := nI U) (mi := nI m) (R.sr.to (congrFun A.1 33)) R.na ha hr o2.1 hp ep (by rw [A.2.1 34 (by decide)]; exact e34) (by rw [A.2.1 33 (by decide)]; exact k3) k4 (by rw [gm g' A, ← e1]; exact m1) (by rw [A.2.1 33 (by decide)]; exact m3) (by rw [gf g' A]; exact hk) (by rw [gf g' A, kl_len]; exact hf) (by
          rw [A.2.1 53 (by decide), p3]
          exact nI_le hcl (by omega))
        refine C8.weak ?_
        rintro v G ⟨x, x1, x2, g2, ng, F, hng, rfl⟩
        rw [eU]
        exact ⟨x, x1, x2, mev_new (gm g' A) F hng⟩
      · have hp0 : p0 < 100 := by omega
        have hpp : m / 1000 = p0 - 1 := by omega
        obtain ⟨i0, hi0, y1, y2, y3⟩ := (R.bY (ow h a) o2.1 p0 hp0 p3).1 (by omega)
        have P := y3 r hr
        obtain ⟨k, hk5, t1, t2, t3, t4⟩ := P.tc
        have eq1 : f_qty (f_put h nc key (nI (ow h a)) (nI m)) NA (ow h a) r (m / 1000) = m_qty h NA (nI (ow h a)) r (m / 1000) := by
          rw [← R.qty o2.1 hr hp]
          unfold f_qty f_q1
          rw [put_l (by decide)]
          rfl
        have C7 := ct_X7_event_ok (NA := NA) (NH := NH) (NI := NI) (h := h) (key := key) (a := a) (r := r) (u := nI U) (mi := nI m) R.sh R.sc.2.1.2.1 R.na ha hr u1 m0 m1 m2 R.ba.2.1 R.wn k1 (by omega) hk ep (ct_X7_countUnits_adj (NA := NA) (NH := NH) (NI := NI) (h := f_put h nc key (nI (ow h a)) (nI m)) (a := a) (r := r) (p := m / 1000) (k := k) (u := nI U) (R.sh.to rfl) (by rw [put_i (by decide)]; exact R.sc.2.1.2.1) R.na R.ba.1 R.ba.2.1 (R.wn.to (fun t => by rw [put_i (by decide)])) ha hr hp (by
          show _ < qg_i (f_put h nc key (nI (ow h a)) (nI m)) 10 (ow h a) 6
          rw [put_i (by decide), p2]
          exact nI_lt (by omega) (by omega)) hk5 (by
          show 1 ≤ qg_i (f_put h nc key (nI (ow h a)) (nI m)) 18 (8 * ow h a + 2 * r + 1) 5
          rw [put_i (by decide)]
          exact t4) (by
          show qg_i (f_put h nc key (nI (ow h a)) (nI m)) 18 (8 * ow h a + 2 * r + 1) 3 = _
          rw [put_i (by decide)]
          exact t1))
        have eo : ow (f_put h nc key (nI (ow h a)) (nI m)) a = ow h a := rfl
        rw [eo, eq1, eU] at C7
        obtain ⟨n, n1, n2⟩ := R.qtyb (t := nI (ow h a)) hr hp
        have db : ab (f_cost h (8 * ow h a + 2 * r + 1) k (m_qty h NA (nI (ow h a)) r (m / 1000) + nL U) - f_cost h (8 * ow h a + 2 * r + 1) k (m_qty h NA (nI (ow h a)) r (m / 1000))) ≤ CB := by
          have b1 := f_cost_b (n := m_qty h NA (nI (ow h a)) r (m / 1000) + nL U) P.2.2 hk5 (by rw [n2, nL_add, nL_toInt (by omega)]; omega)
          have b2 := f_cost_b (n := m_qty h NA (nI (ow h a)) r (m / 1000)) P.2.2 hk5 (by rw [n2, nL_toInt (by omega)]; omega)
          exact (ab_sub b1 b2 (by omega)).2
        refine ⟨1, _, _, true, nc, m / 1000, by decide, hp, k1, by omega, db, cev_adj, C7, fun g' A => ?_⟩
        have C8 := ct_X8_come_adj (h := g') (na := NA) (nk := nk) (a := a) (t := ow h a) (r := r) (p := m / 1000) (i0 := i0) (k := k) (key := key) (u := nI U) (mi := nI m) (R.sr.to (congrFun A.1 33)) (by rw [A.2.1 33 (by decide)]; exact R.sc.2.2.2.1) R.na ha hr o2.1 hp ep (by rw [A.2.1 34 (by decide)]; exact e34) (by rw [A.2.1 33 (by decide)]; exact k3) k4 (by rw [gm g' A, ← e1]; exact m1) (by rw [A.2.1 33 (by decide)]; exact m3) (by rw [gf g' A]; exact hk) (by rw [gf g' A, kl_len]; exact hf) (by
          rw [A.2.1 53 (by decide), p3]
          exact nI_lt (by omega) (by omega)) (by have := R.ni; omega) (by rw [A.2.1 57 (by decide), A.2.1 58 (by decide), hpp]; exact y1) (by rw [A.2.1 57 (by decide), A.2.1 58 (by decide), hpp]; exact y2) hk5 (by rw [A.2.2 46 (by decide)]; exact t3) (by rw [A.2.2 46 (by decide)]; exact t2)
        have q1 : m_qty g' NA (nI (ow h a)) r (m / 1000) = m_qty h NA (nI (ow h a)) r (m / 1000) := by
          unfold m_qty
          rw [A.2.1 34 (by decide), A.2.2 37 (by decide)]
        have q2 : ∀ n, m_cost g' (18 * (24 + 4 * i0 + r)) k n = f_cost h (8 * ow h a + 2 * r + 1) k n := fun n => by
          rw [← P.cost hk5]
          unfold m_cost
          rw [A.2.2 46 (by decide)]
        rw [q1, q2, q2, eU] at C8
        refine C8.weak ?_
        rintro v G ⟨x, x1, x2, g2, ng, F, hng, rfl⟩
        exact ⟨x, x1, x2, mev_adj (gm g' A) F hng⟩
theorem st_event (R : RC c h) (hc : c < 512) (key : Int64) (a r u mi : Int32) : ∃ f, qM yX7_event cX7_event 8 ((some .int)) 5 124 0 0 [.inr (.inr (some (1, 0))), .inr (.inl key), .inl a, .inl r, .inl u, .inl mi] h (pI f) ∧ ∀ x g, f x g → qM yX8_event cX8_event 7 ((some .int)) 4 119 0 0 [.inr (.inr (some (33, 0))), .inr (.inl key), .inl a, .inl r, .inl u, .inl mi] g (pI fun y g' => y = x ∧ RC (c + 1) g') := by
  have R0 := R
  obtain ⟨M, NA, NH, NI, R⟩ := R
  have hM := R.sc.1.1
  have e1 : qg_i h 1 0 5 = nI M := R.sc.2.1.1
  have e2 : qg_i h 33 0 0 = nI M := R.sc.2.2.1
  by_cases hb : (0 ≤ a ∧ a < nI NA) ∧ (0 ≤ r ∧ r < 4) ∧ (1 ≤ u ∧ u ≤ 1000000) ∧ 0 ≤ mi
  · obtain ⟨a', ha, rfl⟩ := ix_of (n := NA) (by have := R.na; omega) hb.1
    obtain ⟨r', hr, rfl⟩ : ∃ b, b < 4 ∧ r = nI b := ix_of (n := 4) (by decide) hb.2.1
    obtain ⟨m, hm, rfl⟩ := i32_nat hb.2.2.2
    have hu := hb.2.2.1
    obtain ⟨U, hU0, rfl⟩ := i32_nat (x := u) (by have := hu.1; grind)
    have hU : 1 ≤ U ∧ U ≤ 1000000 := ⟨(nI_leI (a := 1) (by omega) (by omega)).mp hu.1, (nI_leI (b := 1000000) (by omega) (by omega)).mp hu.2⟩
    by_cases he : M < m
    · have q : nI M < nI m := nI_lt he (by omega)
      exact rdI R0 (ct_X7_event_early R.sh R.sc.2.1.2.1 R.na ha hr hu hb.2.2.2 (by rw [e1]; exact q)) (ct_X8_event_ok R.sc.2.2.2.1 R.na ha hr hu hb.2.2.2 (ct_X8_come_early (by rw [e2]; exact q)))
    · by_cases hl : m + 500 < M
      · have q : nI m ≤ nI M := nI_le (by omega) (by omega)
        refine rdI R0 (ct_X7_event_late R.sh R.sc.2.1.2.1 R.na ha hr hu hb.2.2.2 (by rw [e1]; exact q) ?_) (ct_X8_event_ok R.sc.2.2.2.1 R.na ha hr hu hb.2.2.2 (ct_X8_come_late (by rw [e2]; exact q) ?_))
        · rw [e1, show M = m + (M - m) by omega, nI_minus]
          exact nI_lt (a := 500) (by omega) (by omega)
        · rw [e2, show M = 500 + (M - 500) by omega, show (500 : Int32) = nI 500 from rfl, nI_minus]
          exact nI_lt (by omega) (by omega)
      · obtain ⟨nk, t, ht, ek, hnk, h1 | h1⟩ := R.evc (key := key) (U := U) (m := m) hc ha hr hU ⟨by omega, by omega⟩
        · obtain ⟨v, hv, C7, C8⟩ := h1
          refine ⟨_, C7, ?_⟩
          rintro x g ⟨rfl, rfl⟩
          refine (ct_X8_event_ok R.sc.2.2.2.1 R.na ha hr hu hb.2.2.2 C8).weak ?_
          rintro w G ⟨x, x1, x2, ng, F⟩
          exact ⟨x, x1, x2, M, NA, NH, NI, (R.forget ek hnk F).1⟩
        · obtain ⟨v, g, d, ad, nc, p, hv, hp, ec, hnc, hd, C, C7, C8⟩ := h1
          refine ⟨_, C7, ?_⟩
          rintro x g' ⟨rfl, rfl⟩
          refine (ct_X8_event_ok (na := NA) (by rw [C.2.1 33 (by decide)]; exact R.sc.2.2.2.1) R.na ha hr hu hb.2.2.2 (C8 _ C.ag)).weak ?_
          rintro w G ⟨x, x1, x2, E⟩
          exact ⟨x, x1, x2, M, NA, NH, NI, R.ev hc ha hr hp ht hU ⟨by omega, by omega⟩ ec hnc ek hnk C E hd⟩
  · exact rdI R0 (ct_X7_event_bad R.sh R.sc.2.1.2.1 R.na hb) (ct_X8_event_bad (by rw [R.sc.2.2.2.1]; exact hb))
theorem eh_all {g : qH} {j a0 r0 r x y : Nat} : qg_i (qs_i (f_eh g j a0 r0) 45 0 j 1) r x y = if r = 45 ∧ x = 0 ∧ y = j then 1 else if r = 25 ∧ y = r0 ∧ ly (par g) a0 x = true then (if r = 1 ∧ x = 0 ∧ y = 8 then qg_i g 1 0 8 - 1 else if r = 27 ∧ x = j ∧ y = 4 then 0 else qg_i g r x y) + (-(qg_i g 27 j 2)) else (if r = 1 ∧ x = 0 ∧ y = 8 then qg_i g 1 0 8 - 1 else if r = 27 ∧ x = j ∧ y = 4 then 0 else qg_i g r x y) := rfl
theorem eh_fi {g : qH} {j a0 r0 k : Nat} (e : k ∉ [1, 25, 27, 45]) : qg_i (qs_i (f_eh g j a0 r0) 45 0 j 1) k = qg_i g k := by
  simp only [List.mem_cons, List.not_mem_nil, or_false, not_or] at e
  funext x y
  rw [eh_all, if_neg (fun z => e.2.2.2 z.1), if_neg (fun z => e.2.1 z.1), if_neg (fun z => e.1 z.1), if_neg (fun z => e.2.2.1 z.1)]
theorem CEV.eh {g : qH} {nc a r p t j a0 r0 : Nat} {e : Int64 × Int32 × Int32} {u d : Int64} {ad : Bool} (C : CEV h g nc e a r p t u d ad) : CEV (qs_i (f_eh h j a0 r0) 45 0 j 1) (qs_i (f_eh g j a0 r0) 45 0 j 1) nc e a r p t u d ad := by
  obtain ⟨⟨c1, c2⟩, c3, c4, ⟨c5, c6⟩, c7, c8, c9⟩ := C
  have pe : par g = par h := by
    unfold par
    rw [c1]
  refine ⟨⟨c1, c2⟩, fun k hk => ?_, c4, ⟨?_, ?_⟩, c7, c8, c9⟩
  · funext x y
    rw [eh_all, eh_all, pe, c3 1 (by decide), c3 27 (by decide), c3 k hk]
  · rw [eh_fi (by decide)]
    exact c5
  · have e1 : ∀ (f : qH) (n : Nat), kl (qs_i (f_eh f j a0 r0) 45 0 j 1) 7 8 9 n = kl f 7 8 9 n := fun f n => by
      unfold kl
      rw [eh_fi (by decide), eh_fi (by decide)]
      rfl
    rw [e1, e1]
    exact c6
theorem MEV.at45 {g : qH} {M nk z q j : Nat} {e : Int64 × Int32 × Int32} {u d : Int64} {ad : Bool} {v : Int32} (E : MEV h g M nk e z q u d ad) : MEV (qs_i h 45 0 j v) (qs_i g 45 0 j v) M nk e z q u d ad := by
  obtain ⟨⟨e1, e2⟩, e3, e33, e4, ⟨ng, e5, e6, e7⟩, e8, e9, e10, e11⟩ := E
  refine ⟨⟨e1, e2⟩, fun k hk => ?_, fun k hk => ?_, e4, ⟨ng, e5, ?_, ?_⟩, e8, e9, e10, fun y => ?_⟩
  · by_cases w : k = 45
    · subst w
      funext x y
      rw [rd_ii, rd_ii, e3 45 (by decide)]
    · rw [fr_ii w, fr_ii w, e3 k hk]
  · rw [fr_ii (by decide), fr_ii (by decide), e33 k hk]
  · rw [fr_ii (by decide), e6]
  · have f1 : ∀ (f : qH) (n : Nat), kl (qs_i f 45 0 j v) 38 39 40 n = kl f 38 39 40 n := fun f n => by
      unfold kl
      rw [fr_ii (by decide), fr_ii (by decide)]
      rfl
    rw [f1, f1]
    exact e7
  · rw [fr_ii (by decide), fr_ii (by decide), e11]
theorem qs_same {a b k : Nat} {v : Int32} (e : qg_i h a b k = v) : qs_i h a b k v = h := by
  obtain ⟨h1, h2, h3, h4⟩ := h
  have : (fun x y z => if x = a ∧ y = b ∧ z = k then v else h2 x y z) = h2 := by
    funext x y z
    by_cases q : x = a ∧ y = b ∧ z = k
    · rw [if_pos q]
      obtain ⟨rfl, rfl, rfl⟩ := q
      exact e.symm
    · rw [if_neg q]
  show (h1, (fun x y z => if x = a ∧ y = b ∧ z = k then v else h2 x y z), h3, h4) = _
  rw [this]
theorem st_settle (R : RC c h) (hc : c < 512) (a u : Int32) (key : Int64) : ∃ f, qM yX7_settle cX7_settle 7 ((some .int)) 6 151 0 0 [.inr (.inr (some (1, 0))), .inl a, .inl u, .inr (.inl key)] h (pI f) ∧ ∀ x g, f x g → qM yX8_settle cX8_settle 6 ((some .int)) 4 119 0 0 [.inr (.inr (some (33, 0))), .inl a, .inl u, .inr (.inl key)] g (pI fun y g' => y = x ∧ RC (c + 1) g') := by
  have R0 := R
  obtain ⟨M, NA, NH, NI, R⟩ := R
  have hM := R.sc.1.1
  have e1 : qg_i h 1 0 5 = nI M := R.sc.2.1.1
  have e2 : qg_i h 33 0 0 = nI M := R.sc.2.2.1
  by_cases hb : ∃ j, j < NH ∧ a = nI j ∧ ¬ qg_i h 27 j 4 = 0 ∧ 0 ≤ u ∧ u ≤ qg_i h 27 j 2
  · obtain ⟨j, hj, rfl, ho, hu0, hu⟩ := hb
    obtain ⟨w1, w2, w3, w4⟩ := R.h1.1 j hj
    obtain ⟨q1, q2, q3, q4, q5, q6, q7⟩ := R.h1.2 j hj
    have om : m_open h j = true := q7.mp ho
    have R1 := R.eh hj ho
    by_cases hz : u = 0
    · subst hz
      have C8 := ct_X8_settle_zero (h := f_eh h j (hu_ h j) (hr_ h j)) (key := key) (R.sr.to rfl) R.sc.2.2.2.2.1 R.nh hj (show m_open (f_eh h j (hu_ h j) (hr_ h j)) j = true from om) (show 0 ≤ qg_i h 43 0 j by rw [q3]; exact hu)
      exact wrI (ct_X7_settle_zero R.sh R.na R.ba.1 R.sc.2.1.2.2.1 R.nh hj ho w1 w3 w2 w4 hu) C8 ⟨M, NA, NH, NI, R1.up (Nat.le_succ _)⟩
    · obtain ⟨U, hU0, rfl⟩ := i32_nat hu0
      have hup : 0 < nI U := by grind
      have hU : 1 ≤ U ∧ U ≤ 1000000 := by
        have h1 := (nI_ltI (a := 0) (b := U) (by omega) (by omega)).mp hup
        have h2 : nI U ≤ 1000000 := Int32.le_trans hu (by rw [← q3]; exact q5.2)
        have h3 := (nI_leI (b := 1000000) (by omega) (by omega)).mp h2
        omega
      obtain ⟨nk, t, ht, ek, hnk, h1 | h1⟩ := R.evc (key := key) (U := U) (m := M) hc w1 w3 hU ⟨Nat.le_refl _, by omega⟩
      · obtain ⟨v, hv, C7, C8⟩ := h1
        rw [← e1] at C7
        rw [← e2] at C8
        refine ⟨_, ct_X7_settle_ok R.sh R.na R.sc.2.1.2.2.1 R.nh hj ho w1 w3 w2 w4 (R.ba.2.2 _ w1).1 hup hu C7 (fun x g q z => by
          rw [q.1] at z
          exact absurd hv (by grind)), ?_⟩
        rintro x g ⟨g1, ⟨rfl, rfl⟩, rfl⟩
        rw [if_pos hv]
        refine (ct_X8_settle_ok (na := NA) R.sr R.sc.2.2.2.2.1 R.nh hj om hup (by rw [q3]; exact hu) q1 (q2.trans w4) C8 (fun x g q => by
          obtain ⟨ng, F⟩ := q.2
          exact F.2.2.2.1.2)).weak ?_
        rintro w G ⟨x, x1, g, ⟨x2, ng, F⟩, rfl⟩
        rw [x2, if_pos hv]
        have : qg_i g 45 0 j = 0 := by
          rw [(F.2.2.2.2 45 0 j (by omega)).1]
          unfold m_open at om
          simp only [Bool.and_eq_true, decide_eq_true_eq] at om
          exact om.1
        rw [qs_same this]
        exact ⟨x, x1, x2, M, NA, NH, NI, (R.forget ek hnk F).1⟩
      · obtain ⟨v, g, d, ad, nc, p, hv, hp, ec, hnc, hd, C, C7, C8⟩ := h1
        rw [← e1] at C7
        have pg : par g = par h := by
          unfold par
          rw [C.1.1]
        have A : AG h (f_eh g j (hu_ h j) (hr_ h j)) := by
          refine ⟨C.1.1, fun k hk => ?_, C.2.2.1⟩
          rw [← C.ag.2.1 k hk]
          simp only [List.mem_cons, List.not_mem_nil, or_false, not_or] at hk
          unfold f_eh
          rw [fr_ah (by omega), fr_ii (by omega), fr_ii (by omega)]
        have C9 := C8 _ A
        have x33 : qg_i (f_eh g j (hu_ h j) (hr_ h j)) 33 0 0 = nI M := by
          rw [A.2.1 33 (by decide)]
          exact e2
        rw [← x33] at C9
        refine ⟨_, ct_X7_settle_ok R.sh R.na R.sc.2.1.2.2.1 R.nh hj ho w1 w3 w2 w4 (R.ba.2.2 _ w1).1 hup hu C7 (fun x g' q _ => by
          obtain ⟨-, rfl⟩ := q
          refine ⟨R.sh.to C.1.1, ?_, ?_, ?_⟩
          · have := R.ba.1
            unfold WO at this ⊢
            rw [C.1.1]
            exact this
          · rw [C.1.1]
            exact w2
          · rw [C.2.1 27 (by decide)]
            exact w4), ?_⟩
        rintro x g' ⟨g1, ⟨rfl, rfl⟩, rfl⟩
        rw [if_neg hv]
        refine (ct_X8_settle_ok (na := NA) (h := f_eh g1 j (hu_ h j) (hr_ h j)) (R.sr.to (congrFun A.1 33)) (by rw [A.2.1 33 (by decide)]; exact R.sc.2.2.2.2.1) R.nh hj ?_ hup (by rw [A.2.1 43 (by decide), q3]; exact hu) (by rw [A.2.1 41 (by decide)]; exact q1) (by rw [A.2.1 42 (by decide)]; exact q2.trans w4) C9 (fun x G q => q.2.1.1)).weak ?_
        · unfold m_open at om ⊢
          rw [A.2.1 45 (by decide), A.2.1 44 (by decide), A.2.1 33 (by decide)]
          exact om
        rintro w G ⟨x, x1, g2, ⟨x2, E⟩, rfl⟩
        rw [x2, if_neg hv]
        rw [x33] at E
        refine ⟨x, x1, x2, M, NA, NH, NI, R1.ev hc w1 w3 hp ht hU ⟨Nat.le_refl _, by omega⟩ ?_ hnc ?_ hnk C.eh E.at45 hd⟩
        · rw [eh_fi (by decide)]
          exact ec
        · rw [eh_fi (by decide)]
          exact ek
  · refine rdI R0 (ct_X7_settle_bad R.sh R.sc.2.1.2.2.1 R.nh hb) (ct_X8_settle_bad R.sr R.sc.2.2.2.2.1 R.nh (fun q => hb ?_))
    obtain ⟨j, hj, e, o, u0, u1⟩ := q
    rw [(R.h1.2 j hj).2.2.1] at u1
    exact ⟨j, hj, e, (R.op hj).mpr o, u0, u1⟩
end ES
