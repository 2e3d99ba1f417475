/-! Call by call: holds that end, requests, time -/
theorem sm_i_one {f g : Nat → Int32} {j : Nat} : ∀ {n : Nat}, j < n → (∀ i, i < n → i ≠ j → g i = f i) → sm_i g n = sm_i f n + (g j - f j)
  | 0, hj, _ => absurd hj (Nat.not_lt_zero j)
  | n + 1, hj, e => by
    show sm_i g n + g n = sm_i f n + f n + (g j - f j)
    by_cases q : j = n
    · subst q
      rw [sm_i_congr (fun i hi => e i (by omega) (by omega))]
      grind
    · rw [sm_i_one (by omega) (fun i hi hne => e i (by omega) hne), e n (by omega) (fun z => q z.symm)]
      grind
theorem sm_l_one {f g : Nat → Int64} {j : Nat} : ∀ {n : Nat}, j < n → (∀ i, i < n → i ≠ j → g i = f i) → sm_l g n = sm_l f n + (g j - f j)
  | 0, hj, _ => absurd hj (Nat.not_lt_zero j)
  | n + 1, hj, e => by
    show sm_l g n + g n = sm_l f n + f n + (g j - f j)
    by_cases q : j = n
    · subst q
      rw [sm_l_congr (fun i hi => e i (by omega) (by omega))]
      grind
    · rw [sm_l_one (by omega) (fun i hi hne => e i (by omega) hne), e n (by omega) (fun z => q z.symm)]
      grind
theorem sm_n_congr {f g : Nat → Nat} : ∀ {n : Nat}, (∀ i, i < n → f i = g i) → sm_n f n = sm_n g n
  | 0, _ => rfl
  | n + 1, h => by
    show sm_n f n + f n = sm_n g n + g n
    rw [sm_n_congr (fun i hi => h i (Nat.lt_succ_of_lt hi)), h n (Nat.lt_succ_self n)]
theorem sm_n_one {f g : Nat → Nat} {j : Nat} : ∀ {n : Nat}, j < n → (∀ i, i < n → i ≠ j → g i = f i) → sm_n g n + f j = sm_n f n + g j
  | 0, hj, _ => absurd hj (Nat.not_lt_zero j)
  | n + 1, hj, e => by
    show sm_n g n + g n + f j = sm_n f n + f n + g j
    by_cases q : j = n
    · subst q
      rw [sm_n_congr (fun i hi => e i (by omega) (by omega))]
      omega
    · have := sm_n_one (show j < n by omega) (fun i hi hne => e i (by omega) hne)
      rw [e n (by omega) (fun z => q z.symm)]
      omega
/-- how many are kept by holders -/
def cO (h : qH) (n : Nat) : Nat := sm_n (fun j => if qg_i h 27 j 4 = 0 then 0 else 1) n
theorem cO_eq {h : qH} : ∀ n, sm_i (oC h) n = nI (cO h n) ∧ cO h n ≤ n
  | 0 => ⟨rfl, Nat.le_refl _⟩
  | n + 1 => by
    obtain ⟨a, b⟩ := cO_eq (h := h) n
    have e : cO h (n + 1) = cO h n + (if qg_i h 27 n 4 = 0 then 0 else 1) := rfl
    refine ⟨?_, ?_⟩
    · show sm_i (oC h) n + oC h n = _
      rw [a, e]
      unfold oC
      split
      · show nI (cO h n) + nI 0 = _
        rw [nI_add]
      · show nI (cO h n) + nI 1 = _
        rw [nI_add]
    · rw [e]
      split <;> omega
section HO
variable {c : Nat} {h : qH}
def HK (h : qH) (NA NH : Nat) : Prop := WHC h NA NH ∧ qg_i h 1 0 8 = nI (cO h NH) ∧ BH3 h NA NH
theorem BH2.iff {NH : Nat} (hn : NH ≤ 200) : BH2 h NH ↔ qg_i h 1 0 8 = nI (cO h NH) ∧ cO h NH ≤ 40 := by
  obtain ⟨a, b⟩ := cO_eq (h := h) NH
  unfold BH2
  rw [a]
  constructor
  · rintro ⟨q1, k, k1, k2⟩
    have := (nI_eq (by omega) (by omega)).mp k2
    exact ⟨q1, by omega⟩
  · rintro ⟨q1, q2⟩
    exact ⟨q1, _, q2, rfl⟩
theorem eh_27 {j a r i k : Nat} (hk : k ≠ 4) : qg_i (f_eh h j a r) 27 i k = qg_i h 27 i k := by
  show (if 27 = 27 ∧ i = j ∧ k = 4 then 0 else qg_i h 27 i k) = _
  rw [if_neg (fun q => hk q.2.2)]
theorem eh_274 {j a r i : Nat} : qg_i (f_eh h j a r) 27 i 4 = if 27 = 27 ∧ i = j ∧ 4 = 4 then 0 else qg_i h 27 i 4 := rfl
theorem eh_25 {j a r b k : Nat} : qg_i (f_eh h j a r) 25 b k = if 25 = 25 ∧ k = r ∧ ly (par h) a b = true then qg_i h 25 b k + (-(qg_i h 27 j 2)) else qg_i h 25 b k := rfl
theorem HK.eh {NA NH j : Nat} (K : HK h NA NH) (hj : j < NH) (hn : NH ≤ 200) (ho : ¬ qg_i h 27 j 4 = 0) : HK (f_eh h j (hu_ h j) (hr_ h j)) NA NH ∧ cO (f_eh h j (hu_ h j) (hr_ h j)) NH + 1 = cO h NH := by
  obtain ⟨k1, k2, k3⟩ := K
  have e1 : ∀ i, hu_ (f_eh h j (hu_ h j) (hr_ h j)) i = hu_ h i := fun i => rfl
  have e2 : ∀ i, hr_ (f_eh h j (hu_ h j) (hr_ h j)) i = hr_ h i := fun i => by
    unfold hr_
    rw [eh_27 (by decide)]
  have e3 : ∀ i, i ≠ j → qg_i (f_eh h j (hu_ h j) (hr_ h j)) 27 i 4 = qg_i h 27 i 4 := fun i hi => by rw [eh_274, if_neg (fun q => hi q.2.1)]
  have e4 : qg_i (f_eh h j (hu_ h j) (hr_ h j)) 27 j 4 = 0 := by rw [eh_274, if_pos (by simp)]
  have hc : cO (f_eh h j (hu_ h j) (hr_ h j)) NH + 1 = cO h NH := by
    have := sm_n_one (f := fun j => if qg_i h 27 j 4 = 0 then 0 else 1) (g := fun i => if qg_i (f_eh h j (hu_ h j) (hr_ h j)) 27 i 4 = 0 then 0 else 1) (j := j) (n := NH) hj (fun i _ hi => by simp only [e3 i hi])
    simp only [e4, if_neg ho, if_true] at this
    exact this
  refine ⟨⟨fun i hi => ?_, ?_, fun b hb r hr => ?_⟩, hc⟩
  · obtain ⟨a1, a2, a3, a4⟩ := k1 i hi
    rw [e1, e2, eh_27 (by decide)]
    exact ⟨a1, a2, a3, a4⟩
  · show qg_i h 1 0 8 - 1 = _
    rw [k2, ← hc]
    exact nI_pred _
  · rw [eh_25, sm_i_one (f := hC h b r) (j := j) hj (fun i hi hne => ?_), ← k3 b hb r hr]
    · have e5 : hC (f_eh h j (hu_ h j) (hr_ h j)) b r j = 0 := by
        unfold hC
        rw [if_neg (fun q => q.1 e4)]
      rw [e5]
      unfold hC
      by_cases q : hr_ h j = r ∧ ly (par h) (hu_ h j) b = true
      · rw [if_pos ⟨rfl, q.1.symm, q.2⟩, if_pos ⟨ho, q⟩]
        grind
      · rw [if_neg (fun z => q ⟨z.2.1.symm, z.2.2⟩), if_neg (fun z => q z.2)]
        grind
    · unfold hC
      rw [e3 i hne, e2, e1, eh_27 (by decide)]
      rfl
theorem RD.eh {M NA NH NI j : Nat} (R : RD c h M NA NH NI) (hj : j < NH) (ho : ¬ qg_i h 27 j 4 = 0) : RD c (qs_i (f_eh h j (hu_ h j) (hr_ h j)) 45 0 j 1) M NA NH NI := by
  obtain ⟨b1, b2⟩ := (BH2.iff R.nh).mp R.h2
  obtain ⟨⟨k1, k2, k3⟩, k4⟩ := HK.eh ⟨R.h1.1, b1, R.h3⟩ hj R.nh ho
  refine ⟨R.sc.to (by intro k hk; rcases hk with rfl | rfl | rfl | rfl <;> rfl) (by intro k hk; rcases hk with rfl | rfl | rfl | rfl <;> rfl), R.sr.to rfl, R.sh.to rfl, R.sn.to rfl, R.wn.to (fun _ => rfl), R.ba.to rfl rfl rfl rfl, R.bl.to rfl rfl, R.bu.to rfl rfl rfl, R.bs.to rfl, ?_, ?_, ?_, R.bk.to rfl rfl rfl rfl rfl rfl rfl rfl, R.bp.to rfl rfl rfl rfl rfl, R.bt.to (fun _ => rfl) (fun _ => rfl) (fun _ => rfl) rfl rfl rfl, (R.bz.to (fun _ => rfl) rfl rfl rfl rfl rfl rfl), R.bY.to rfl rfl rfl rfl rfl rfl rfl rfl, R.bc.to rfl rfl rfl rfl rfl rfl rfl, R.bi.to rfl rfl rfl rfl rfl rfl rfl rfl rfl rfl⟩
  · refine ⟨k1, fun i hi => ?_⟩
    obtain ⟨q1, q2, q3, q4, q5, q6, q7⟩ := R.h1.2 i hi
    have f1 : ∀ k, k ≠ 4 → qg_i (qs_i (f_eh h j (hu_ h j) (hr_ h j)) 45 0 j 1) 27 i k = qg_i h 27 i k := fun k hk => eh_27 (a := hu_ h j) (r := hr_ h j) hk
    refine ⟨q1, ?_, ?_, ?_, q5, q6, ?_⟩
    · rw [f1 1 (by decide)]
      exact q2
    · rw [f1 2 (by decide)]
      exact q3
    · rw [f1 3 (by decide)]
      exact q4
    · have f2 : qg_i (qs_i (f_eh h j (hu_ h j) (hr_ h j)) 45 0 j 1) 27 i 4 = qg_i (f_eh h j (hu_ h j) (hr_ h j)) 27 i 4 := rfl
      rw [f2, eh_274]
      have f3 : m_open (qs_i (f_eh h j (hu_ h j) (hr_ h j)) 45 0 j 1) i = (decide ((if 45 = 45 ∧ 0 = 0 ∧ i = j then (1 : Int32) else qg_i h 45 0 i) = 0) && decide (qg_i h 33 0 0 < qg_i h 44 0 i + 60)) := rfl
      rw [f3]
      by_cases e : i = j
      · rw [if_pos ⟨rfl, e, rfl⟩, if_pos ⟨rfl, rfl, e⟩]
        simp
      · rw [if_neg (fun z => e z.2.1), if_neg (fun z => e z.2.2)]
        exact q7
  · exact (BH2.iff R.nh).mpr ⟨k2, by show cO (f_eh h j (hu_ h j) (hr_ h j)) NH ≤ 40; omega⟩
  · exact k3
theorem RD.op {M NA NH NI : Nat} (R : RD c h M NA NH NI) {j : Nat} (hj : j < NH) : ¬ qg_i h 27 j 4 = 0 ↔ m_open h j = true := (R.h1.2 j hj).2.2.2.2.2.2
theorem st_drop (R : RC c h) (a : Int32) : ∃ f, qM yX7_drop cX7_drop 3 ((some .int)) 2 44 0 0 [.inr (.inr (some (1, 0))), .inl a] h (pI f) ∧ ∀ x g, f x g → qM yX8_drop cX8_drop 2 ((some .int)) 1 21 0 0 [.inr (.inr (some (33, 0))), .inl a] g (pI fun y g' => y = x ∧ RC (c + 1) g') := by
  have R0 := R
  obtain ⟨M, NA, NH, NI, R⟩ := R
  by_cases hb : ∃ j, j < NH ∧ a = nI j ∧ ¬ qg_i h 27 j 4 = 0
  · obtain ⟨j, hj, rfl, ho⟩ := hb
    obtain ⟨w1, w2, w3, w4⟩ := R.h1.1 j hj
    have C8 := ct_X8_drop_ok (h := f_eh h j (hu_ h j) (hr_ h j)) (R.sr.to rfl) R.sc.2.2.2.2.1 R.nh hj (show m_open (f_eh h j (hu_ h j) (hr_ h j)) j = true from (R.op (h := h) hj).mp ho)
    have e : qg_i (f_eh h j (hu_ h j) (hr_ h j)) 43 0 j = qg_i h 27 j 2 := (R.h1.2 j hj).2.2.1
    rw [e] at C8
    exact wrI (ct_X7_drop_ok R.sh R.na R.ba.1 R.sc.2.1.2.2.1 R.nh hj ho w1 w3 w2 w4) C8 ⟨M, NA, NH, NI, (R.eh hj ho).up (Nat.le_succ _)⟩
  · refine rdI R0 (ct_X7_drop_bad R.sh R.sc.2.1.2.2.1 R.nh hb) (ct_X8_drop_bad R.sr R.sc.2.2.2.2.1 R.nh (fun q => hb ?_))
    obtain ⟨j, hj, e, q⟩ := q
    exact ⟨j, hj, e, (R.op hj).mpr q⟩
/-- a new hold -/
theorem rq_27 {NH a r i k : Nat} {u : Int32} (hi : i ≠ NH) : qg_i (f_req h NH a r u) 27 i k = qg_i h 27 i k := by
  simp [f_req, ahF, f_2, qg_i, qs_i, qs_r, qs_n, hi]
theorem rq_27r {NH a r i k : Nat} {u : Int32} (hi : i ≠ NH) : qg_r (f_req h NH a r u) 27 i k = qg_r h 27 i k := by
  simp [f_req, ahF, f_2, qg_r, qs_i, qs_r, qs_n, hi]
theorem rq_new {NH a r : Nat} {u : Int32} : qg_i (f_req h NH a r u) 27 NH 1 = nI r ∧ qg_i (f_req h NH a r u) 27 NH 2 = u ∧ qg_i (f_req h NH a r u) 27 NH 3 = qg_i h 1 0 5 ∧ qg_i (f_req h NH a r u) 27 NH 4 = 1 ∧ qg_r (f_req h NH a r u) 27 NH 0 = some (22, a) := by
  simp [f_req, ahF, f_2, qg_i, qg_r, qs_i, qs_r, qs_n]
theorem rq_25 {NH a r b k : Nat} {u : Int32} : qg_i (f_req h NH a r u) 25 b k = if 25 = 25 ∧ k = r ∧ ly (par h) a b = true then qg_i h 25 b k + u else qg_i h 25 b k := rfl
theorem mrq_new {g : qH} {NH : Nat} {a r u : Int32} : qg_i (m_req g NH a r u) 41 0 NH = a ∧ qg_i (m_req g NH a r u) 42 0 NH = r ∧ qg_i (m_req g NH a r u) 43 0 NH = u ∧ qg_i (m_req g NH a r u) 44 0 NH = qg_i g 33 0 0 ∧ qg_i (m_req g NH a r u) 45 0 NH = 0 := by
  simp [m_req, qii]
theorem mrq_old {g : qH} {NH i : Nat} {a r u : Int32} (hi : i ≠ NH) (k : Nat) (hk : k ≠ 33) : qg_i (m_req g NH a r u) k 0 i = qg_i g k 0 i := by
  simp [m_req, qii, hi, hk]
theorem fr_ii {h : qH} {a b k r : Nat} {v : Int32} (e : r ≠ a) : qg_i (qs_i h a b k v) r = qg_i h r := by
  funext i j
  simp [qg_i, qs_i, e]
theorem fr_rr {h : qH} {a b k r : Nat} {v : Option (Nat × Nat)} (e : r ≠ a) : qg_r (qs_r h a b k v) r = qg_r h r := by
  funext i j
  simp [qg_r, qs_r, e]
theorem fr_ah {h : qH} {A : Nat → Bool} {r' r : Nat} {u : Int32} (e : r ≠ 25) : qg_i (ahF h A r' u) r = qg_i h r := by
  funext i j
  simp [qg_i, ahF, e]
theorem fr_ir {h : qH} {a b k : Nat} {v : Option (Nat × Nat)} : qg_i (qs_r h a b k v) = qg_i h := rfl
theorem fr_in {h : qH} {a : Nat} : qg_i (qs_n h a) = qg_i h := rfl
theorem fr_ri {h : qH} {a b k : Nat} {v : Int32} : qg_r (qs_i h a b k v) = qg_r h := rfl
theorem fr_rn {h : qH} {a : Nat} : qg_r (qs_n h a) = qg_r h := rfl
theorem fr_rh {h : qH} {A : Nat → Bool} {r' : Nat} {u : Int32} : qg_r (ahF h A r' u) = qg_r h := rfl
theorem rq_fi {NH a r' r : Nat} {u : Int32} (e : r ∉ [1, 25, 27]) : qg_i (f_req h NH a r' u) r = qg_i h r := by
  simp only [List.mem_cons, List.not_mem_nil, or_false, not_or] at e
  unfold f_req f_2
  rw [fr_ah e.2.1, fr_ii e.1, fr_ii e.1, fr_ir, fr_ii e.2.2, fr_ii e.2.2, fr_ii e.2.2, fr_ir, fr_ii e.2.2, fr_in]
theorem rq_fr {NH a r' r : Nat} {u : Int32} (e : r ∉ [4, 27]) : qg_r (f_req h NH a r' u) r = qg_r h r := by
  simp only [List.mem_cons, List.not_mem_nil, or_false, not_or] at e
  unfold f_req f_2
  rw [fr_rh, fr_ri, fr_ri, fr_rr e.1, fr_ri, fr_ri, fr_ri, fr_rr e.2, fr_ri, fr_rn]
theorem mrq_fi {g : qH} {NH r : Nat} {a b u : Int32} (e : r ∉ [33, 41, 42, 43, 44, 45]) : qg_i (m_req g NH a b u) r = qg_i g r := by
  simp only [List.mem_cons, List.not_mem_nil, or_false, not_or] at e
  obtain ⟨e1, e2, e3, e4, e5, e6⟩ := e
  unfold m_req
  rw [fr_ii e1, fr_ii e6, fr_ii e5, fr_ii e4, fr_ii e3, fr_ii e2]
theorem mrq_fr {g : qH} {NH : Nat} {a b u : Int32} : qg_r (m_req g NH a b u) = qg_r g := rfl
theorem mrq_33 {g : qH} {NH k : Nat} {a b u : Int32} (e : k ≠ 10) : qg_i (m_req g NH a b u) 33 0 k = qg_i g 33 0 k := by
  simp [m_req, qii, e]
theorem m_room_to {g : qH} {na nh p r a : Nat} (e33 : qg_i g 33 0 0 = qg_i h 33 0 0) (e35 : qg_i g 35 = qg_i h 35) (e36 : qg_i g 36 = qg_i h 36) (e37 : qg_l g 37 = qg_l h 37) (e41 : qg_i g 41 = qg_i h 41) (e42 : qg_i g 42 = qg_i h 42) (e43 : qg_i g 43 = qg_i h 43) (e44 : qg_i g 44 = qg_i h 44) (e45 : qg_i g 45 = qg_i h 45) : m_room g na nh p r a = m_room h na nh p r a := by
  unfold m_room
  rw [m_room_grn, m_room_grn]
  unfold m_used m_held m_held1 m_open
  rw [e33, e35, e36, e37, e41, e42, e43, e44, e45]
theorem SHC.req {g : qH} {NA NH NI : Nat} (S : SHC h NA NH NI) (Er : ∀ k, k ∉ [4, 27] → qg_r g k = qg_r h k) (r4 : ∀ i, qg_r g 4 0 i = if 4 = 4 ∧ 0 = 0 ∧ i = NH then some (27, NH) else qg_r h 4 0 i) : SHC g NA (NH + 1) NI := by
  unfold SHC at S ⊢
  rw [Er 1 (by decide), Er 6 (by decide), Er 2 (by decide), Er 10 (by decide), Er 15 (by decide), Er 11 (by decide), Er 12 (by decide), Er 18 (by decide), Er 3 (by decide), Er 22 (by decide), Er 23 (by decide), Er 5 (by decide), Er 28 (by decide)]
  refine ⟨S.1, S.2.1, S.2.2.1, S.2.2.2.1, S.2.2.2.2.1, fun i hi => ?_, S.2.2.2.2.2.2⟩
  rw [r4]
  by_cases e : i = NH
  · rw [if_pos ⟨rfl, rfl, e⟩, e]
  · rw [if_neg (fun z => e z.2.2)]
    exact S.2.2.2.2.2.1 i (by omega)
theorem RD.req {M NA NH NI a r : Nat} {u : Int32} (R : RD c h M NA NH NI) (ha : a < NA) (hr : r < 4) (hu : 1 ≤ u ∧ u ≤ 1000000) (hn : NH < 200) (ho : cO h NH < 40) : RD (c + 1) (m_req (f_req h NH a r u) NH (nI a) (nI r) u) M NA (NH + 1) NI := by
  obtain ⟨b1, b2⟩ := (BH2.iff R.nh).mp R.h2
  have i27 : ∀ i k, i ≠ NH → qg_i (m_req (f_req h NH a r u) NH (nI a) (nI r) u) 27 i k = qg_i h 27 i k := fun i k hi => by rw [mrq_fi (by decide)]; exact rq_27 hi
  have r27 : ∀ i k, i ≠ NH → qg_r (m_req (f_req h NH a r u) NH (nI a) (nI r) u) 27 i k = qg_r h 27 i k := fun i k hi => by rw [mrq_fr]; exact rq_27r hi
  obtain ⟨n1, n2, n3, n4, n5⟩ := rq_new (h := h) (NH := NH) (a := a) (r := r) (u := u)
  obtain ⟨m1, m2, m3, m4, m5⟩ := mrq_new (g := f_req h NH a r u) (NH := NH) (a := nI a) (r := nI r) (u := u)
  have i25 : ∀ b k, qg_i (m_req (f_req h NH a r u) NH (nI a) (nI r) u) 25 b k = qg_i (f_req h NH a r u) 25 b k := fun b k => by rw [mrq_fi (by decide)]
  have epar : par (m_req (f_req h NH a r u) NH (nI a) (nI r) u) = par h := by unfold par; rw [mrq_fr, rq_fr (by decide)]
  have e33 : qg_i (m_req (f_req h NH a r u) NH (nI a) (nI r) u) 33 0 0 = qg_i h 33 0 0 := by rw [mrq_33 (by decide), rq_fi (by decide)]
  have old : ∀ k i, i ≠ NH → k = 41 ∨ k = 42 ∨ k = 43 ∨ k = 44 ∨ k = 45 → qg_i (m_req (f_req h NH a r u) NH (nI a) (nI r) u) k 0 i = qg_i h k 0 i := fun k i hi hk => by
    rw [mrq_old hi k (by omega)]
    rcases hk with rfl | rfl | rfl | rfl | rfl <;> rw [rq_fi (by decide)]
  have n1 : qg_i (m_req (f_req h NH a r u) NH (nI a) (nI r) u) 27 NH 1 = nI r := by rw [mrq_fi (by decide)]; exact n1
  have n2 : qg_i (m_req (f_req h NH a r u) NH (nI a) (nI r) u) 27 NH 2 = u := by rw [mrq_fi (by decide)]; exact n2
  have n3 : qg_i (m_req (f_req h NH a r u) NH (nI a) (nI r) u) 27 NH 3 = qg_i h 1 0 5 := by rw [mrq_fi (by decide)]; exact n3
  have n4 : qg_i (m_req (f_req h NH a r u) NH (nI a) (nI r) u) 27 NH 4 = 1 := by rw [mrq_fi (by decide)]; exact n4
  have n5 : qg_r (m_req (f_req h NH a r u) NH (nI a) (nI r) u) 27 NH 0 = some (22, a) := by rw [mrq_fr]; exact n5
  have m4 : qg_i (m_req (f_req h NH a r u) NH (nI a) (nI r) u) 44 0 NH = qg_i h 33 0 0 := by rw [m4, rq_fi (by decide)]
  have x7 : qg_i (m_req (f_req h NH a r u) NH (nI a) (nI r) u) 1 0 7 = nI (NH + 1) := by rw [mrq_fi (by decide)]; rfl
  have x10 : qg_i (m_req (f_req h NH a r u) NH (nI a) (nI r) u) 33 0 10 = nI (NH + 1) := rfl
  have x8 : qg_i (m_req (f_req h NH a r u) NH (nI a) (nI r) u) 1 0 8 = qg_i h 1 0 8 + 1 := by rw [mrq_fi (by decide)]; rfl
  have r4 : ∀ i, qg_r (m_req (f_req h NH a r u) NH (nI a) (nI r) u) 4 0 i = if 4 = 4 ∧ 0 = 0 ∧ i = NH then some (27, NH) else qg_r h 4 0 i := fun i => by rw [mrq_fr]; rfl
  have x5 : ∀ k, k = 5 ∨ k = 6 ∨ k = 9 → qg_i (m_req (f_req h NH a r u) NH (nI a) (nI r) u) 1 0 k = qg_i h 1 0 k := fun k hk => by
    rw [mrq_fi (by decide)]
    rcases hk with rfl | rfl | rfl <;> rfl
  have x33 : ∀ k, k ≠ 10 → qg_i (m_req (f_req h NH a r u) NH (nI a) (nI r) u) 33 0 k = qg_i h 33 0 k := fun k hk => by
    rw [mrq_33 hk, rq_fi (by decide)]
  have Ei : ∀ k, k ∉ [1, 25, 27, 33, 41, 42, 43, 44, 45] → qg_i (m_req (f_req h NH a r u) NH (nI a) (nI r) u) k = qg_i h k := fun k hk => by
    simp only [List.mem_cons, List.not_mem_nil, or_false, not_or] at hk
    rw [mrq_fi (by simp only [List.mem_cons, List.not_mem_nil, or_false, not_or]; exact hk.2.2.2), rq_fi (by simp only [List.mem_cons, List.not_mem_nil, or_false, not_or]; exact ⟨hk.1, hk.2.1, hk.2.2.1⟩)]
  have El : ∀ k, k ∉ ([] : List Nat) → qg_l (m_req (f_req h NH a r u) NH (nI a) (nI r) u) k = qg_l h k := fun k _ => rfl
  have Er : ∀ k, k ∉ [4, 27] → qg_r (m_req (f_req h NH a r u) NH (nI a) (nI r) u) k = qg_r h k := fun k hk => by rw [mrq_fr, rq_fr hk]
  have En : ∀ k, qg_n (m_req (f_req h NH a r u) NH (nI a) (nI r) u) k = if k = 27 then qg_n h k + 1 else qg_n h k := fun k => rfl
  generalize m_req (f_req h NH a r u) NH (nI a) (nI r) u = G at *
  have E330 := x33 0 (by decide)
  have E336 := x33 6 (by decide)
  refine ⟨?_, R.sr.to (Er 33 (by decide)), ?_, ?_, R.wn.to (fun t => congrFun (congrFun (Ei 10 (by decide)) t) 0), R.ba.to (Ei 22 (by decide)) (Ei 34 (by decide)) (Ei 35 (by decide)) (Er 22 (by decide)), R.bl.to (Ei 26 (by decide)) (Ei 36 (by decide)), R.bu.to (El 24 (by decide)) (El 37 (by decide)) (Ei 35 (by decide)), (R.bs.to (El 37 (by decide))).up (Nat.le_succ _), ?_, ?_, ?_, R.bk.to (congrFun (congrFun (Ei 6 (by decide)) 0) 3) E336 (El 7 (by decide)) (Ei 8 (by decide)) (Ei 9 (by decide)) (El 38 (by decide)) (Ei 39 (by decide)) (Ei 40 (by decide)), R.bp.to (El 46 (by decide)) (Ei 18 (by decide)) (El 19 (by decide)) (Ei 20 (by decide)) (Ei 21 (by decide)), R.bt.to (fun t => congrFun (congrFun (Ei 10 (by decide)) t) 7) (fun t => congrFun (congrFun (El 10 (by decide)) t) 8) (fun t => congrFun (congrFun (Ei 10 (by decide)) t) 9) (Ei 47 (by decide)) (El 48 (by decide)) (Ei 49 (by decide)), (R.bz.to (fun t => congrFun (congrFun (Ei 10 (by decide)) t) 6) (Ei 53 (by decide)) (Ei 56 (by decide)) (El 13 (by decide)) (El 14 (by decide)) (El 54 (by decide)) (El 55 (by decide))).up (Nat.le_refl _) (Nat.le_succ _), R.bY.to (Ei 53 (by decide)) (Ei 57 (by decide)) (Ei 58 (by decide)) (El 46 (by decide)) (Ei 18 (by decide)) (El 19 (by decide)) (Ei 20 (by decide)) (Ei 21 (by decide)), R.bc.to (Ei 15 (by decide)) (Ei 50 (by decide)) (Ei 17 (by decide)) (Ei 52 (by decide)) (Ei 53 (by decide)) (El 16 (by decide)) (El 51 (by decide)), R.bi.to (Ei 28 (by decide)) (Ei 57 (by decide)) (Ei 58 (by decide)) (Ei 59 (by decide)) (Ei 29 (by decide)) (Ei 30 (by decide)) (El 28 (by decide)) (El 31 (by decide)) (El 32 (by decide)) (El 60 (by decide))⟩
  · refine ⟨⟨R.sc.1.1, R.na, by omega, R.ni⟩, ⟨?_, ?_, x7, ?_⟩, ?_, ?_, x10, ?_⟩
    · rw [x5 5 (by simp)]; exact R.sc.2.1.1
    · rw [x5 6 (by simp)]; exact R.sc.2.1.2.1
    · rw [x5 9 (by simp)]; exact R.sc.2.1.2.2.2
    · rw [x33 0 (by decide)]; exact R.sc.2.2.1
    · rw [x33 1 (by decide)]; exact R.sc.2.2.2.1
    · rw [x33 27 (by decide)]; exact R.sc.2.2.2.2.2
  · exact R.sh.req Er r4
  · unfold SN
    simp only [En]
    refine ⟨R.sn.1, ?_, R.sn.2.2⟩
    show qg_n h 27 + 1 = _
    rw [R.sn.2.1]
  · have hu0 : ∀ i, i ≠ NH → hu_ G i = hu_ h i := fun i hi => by unfold hu_; rw [r27 i 0 hi]
    have hr0 : ∀ i, i ≠ NH → hr_ G i = hr_ h i := fun i hi => by unfold hr_; rw [i27 i 1 hi]
    have hu1 : hu_ G NH = a := by unfold hu_; rw [n5]
    have hr1 : hr_ G NH = r := by unfold hr_; rw [n1, nI_clamp (by omega)]
    refine ⟨fun i hi => ?_, fun i hi => ?_⟩
    · by_cases e : i = NH
      · subst e
        rw [hu1, hr1]
        exact ⟨ha, n5, hr, n1⟩
      · rw [hu0 i e, hr0 i e, r27 i 0 e, i27 i 1 e]
        exact R.h1.1 i (by omega)
    · by_cases e : i = NH
      · subst e
        rw [hu1, m1, m2, m3, m4, n1, n2, n3, n4]
        refine ⟨rfl, rfl, rfl, R.sc.2.2.1.trans R.sc.2.1.1.symm, hu, ⟨M, Nat.le_refl _, R.sc.2.2.1⟩, ?_⟩
        unfold m_open
        rw [m5, m4, e33, R.sc.2.2.1]
        have : nI M < nI M + 60 := by
          rw [show (60 : Int32) = nI 60 from rfl, nI_add]
          exact nI_lt (by omega) (by have := R.sc.1.1; omega)
        simp [this]
      · obtain ⟨q1, q2, q3, q4, q5, q6, q7⟩ := R.h1.2 i (by omega)
        have : m_open G i = m_open h i := by
          unfold m_open
          rw [old 45 i e (by simp), old 44 i e (by simp), e33]
        rw [hu0 i e, old 41 i e (by simp), old 42 i e (by simp), old 43 i e (by simp), old 44 i e (by simp), i27 i 1 e, i27 i 2 e, i27 i 3 e, i27 i 4 e, this]
        exact ⟨q1, q2, q3, q4, q5, q6, q7⟩
  · have hc : cO G (NH + 1) = cO h NH + 1 := by
      show sm_n _ NH + (if qg_i G 27 NH 4 = 0 then 0 else 1) = _
      rw [n4, if_neg (by decide)]
      congr 1
      exact sm_n_congr (fun i hi => by rw [i27 i 4 (by omega)])
    refine (BH2.iff (by omega)).mpr ⟨?_, by omega⟩
    rw [x8, b1, hc, nI_1]
  · intro b hb r' hr'
    have hu0 : ∀ i, i ≠ NH → hu_ G i = hu_ h i := fun i hi => by unfold hu_; rw [r27 i 0 hi]
    have hr0 : ∀ i, i ≠ NH → hr_ G i = hr_ h i := fun i hi => by unfold hr_; rw [i27 i 1 hi]
    have hu1 : hu_ G NH = a := by unfold hu_; rw [n5]
    have hr1 : hr_ G NH = r := by unfold hr_; rw [n1, nI_clamp (by omega)]
    rw [i25, rq_25]
    show _ = sm_i (hC G b r') NH + hC G b r' NH
    have e1 : sm_i (hC G b r') NH = sm_i (hC h b r') NH := sm_i_congr (fun i hi => by
      unfold hC
      rw [hu0 i (by omega), hr0 i (by omega), i27 i 4 (by omega), i27 i 2 (by omega), epar])
    rw [e1, ← R.h3 b hb r' hr']
    unfold hC
    rw [hu1, hr1, n4, n2, epar]
    by_cases q : r' = r ∧ ly (par h) a b = true
    · rw [if_pos ⟨rfl, q⟩, if_pos ⟨by decide, q.1.symm, q.2⟩]
    · rw [if_neg (fun z => q z.2), if_neg (fun z => q ⟨z.2.1.symm, z.2.2⟩)]
      grind
theorem grn_le {pa lim : Nat → Int32} {zz : Nat → Int64} : ∀ (n a : Nat) (x : Int64), grn pa lim zz n a x ≤ x := by
  have one : ∀ (l : Int32) (z x : Int64), gr1 l z x ≤ x := fun l z x => by
    unfold gr1
    split
    · exact Int64.le_refl _
    · split <;> grind
  intro n
  induction n with
  | zero => intro a x; exact one _ _ _
  | succ n ih =>
    intro a x
    unfold grn
    split
    · exact one _ _ _
    · exact Int64.le_trans (ih _ _) (one _ _ _)
theorem free_iff {u : Int32} {x : Int64} (hu : 1 ≤ u) (hx : x ≤ 1000000) : u ≤ (if 0 < x then x else 0).toInt32 ↔ u.toInt64 ≤ x := by
  by_cases q : 0 < x
  · rw [if_pos q]
    rw [Int64.lt_iff_toInt_lt] at q
    rw [Int64.le_iff_toInt_le] at hx ⊢
    rw [Int32.le_iff_toInt_le, Int32.toInt_toInt64]
    have h0 : (0 : Int64).toInt = 0 := rfl
    have h1 : (1000000 : Int64).toInt = 1000000 := rfl
    have : x.toInt32.toInt = x.toInt := by
      rw [Int64.toInt_toInt32]
      apply Int.bmod_eq_of_le <;> omega
    rw [this]
  · rw [if_neg q]
    have h2 : (0 : Int64).toInt32 = 0 := rfl
    rw [h2]
    constructor
    · intro z
      exact absurd z (by grind)
    · intro z
      rw [Int64.lt_iff_toInt_lt] at q
      rw [Int64.le_iff_toInt_le, Int32.toInt_toInt64] at z
      rw [Int32.le_iff_toInt_le] at hu
      have h0 : (0 : Int64).toInt = 0 := rfl
      have h1 : (1 : Int32).toInt = 1 := rfl
      omega
theorem st_request (R : RC c h) (a r u : Int32) : ∃ f, qM yX7_request cX7_request 5 ((some .int)) 2 48 1 5 [.inr (.inr (some (1, 0))), .inl a, .inl r, .inl u] h (pI f) ∧ ∀ x g, f x g → qM yX8_request cX8_request 4 ((some .int)) 3 74 0 0 [.inr (.inr (some (33, 0))), .inl a, .inl r, .inl u] g (pI fun y g' => y = x ∧ RC (c + 1) g') := by
  have R0 := R
  obtain ⟨M, NA, NH, NI, R⟩ := R
  by_cases hb : (0 ≤ a ∧ a < nI NA) ∧ (0 ≤ r ∧ r < 4) ∧ (1 ≤ u ∧ u ≤ 1000000)
  · obtain ⟨a', ha, rfl⟩ := ix_of (n := NA) (by have := R.na; omega) hb.1
    obtain ⟨r', hr, rfl⟩ : ∃ b, b < 4 ∧ r = nI b := ix_of (n := 4) (by decide) hb.2.1
    obtain ⟨p, hp, p1, p2⟩ := R.per
    obtain ⟨b1, b2⟩ := (BH2.iff R.nh).mp R.h2
    have e40 : (40 : Int32) ≤ nI (cO h NH) ↔ 40 ≤ cO h NH := nI_leI (a := 40) (by decide) (by omega)
    have eo : sm_i (m_open1 h) NH = nI (cO h NH) := by rw [R.opn, (cO_eq NH).1]
    by_cases hf : cO h NH = 40 ∨ NH = 200
    · refine rdI R0 (ct_X7_request_full R.sh R.sc.2.1.2.1 R.na ha hr hb.2.2 ?_) (ct_X8_request_full R.sr R.sc.2.2.2.1 R.na R.sc.2.2.2.2.1 R.nh ha hr hb.2.2 ?_)
      · rcases hf with q | q
        · left
          rw [b1]
          exact e40.mpr (by omega)
        · right
          rw [R.sc.2.1.2.2.1, q]
          decide
      · rcases hf with q | q
        · left
          rw [eo, q]
          rfl
        · exact Or.inr q
    · have h1 : cO h NH < 40 := by omega
      have h2 : NH < 200 := by have := R.nh; omega
      have l1 : qg_i h 1 0 8 < 40 := by
        rw [b1]
        exact nI_lt (b := 40) h1 (by decide)
      have l2 : sm_i (m_open1 h) NH ≠ 40 := by
        rw [eo]
        intro q
        have : nI (cO h NH) = nI 40 := q
        have := (nI_eq (by omega) (by omega)).mp this
        omega
      have hx : f_room h r' p a' ≤ 1000000 := grn_le _ _ _
      by_cases hro : u.toInt64 ≤ f_room h r' p a'
      · refine wrI (ct_X7_request_ok R.sh R.ba.1 R.sc.2.1.2.1 R.na R.sc.2.1.2.2.1 h2 R.sn.2.1 ha hr hp p1 hb.2.2 l1 ((free_iff hb.2.2.1 hx).mpr hro)) (ct_X8_request_ok (h := f_req h NH a' r' u) (na := NA) (nh := NH) (p := p) (R.sr.to rfl) R.sc.2.2.2.1 R.na R.wi R.sc.2.2.2.2.1 h2 R.wh ha hr hp p2 hb.2.2 l2 ?_) ⟨M, NA, NH + 1, NI, R.req ha hr hb.2.2 h2 h1⟩
        have : m_room (f_req h NH a' r' u) NA NH p r' a' = m_room h NA NH p r' a' := by
          apply m_room_to <;> first | rfl | (rw [rq_fi (by decide)])
        rw [this, R.room ha hr hp]
        exact hro
      · refine rdI R0 (ct_X7_request_ref R.sh R.ba.1 R.sc.2.1.2.1 R.na ha hr hp p1 hb.2.2 l1 (by rw [R.sc.2.1.2.2.1]; exact nI_lt (b := 200) h2 (by decide)) (fun q => hro ((free_iff hb.2.2.1 hx).mp q))) (ct_X8_request_ref R.sr R.sc.2.2.2.1 R.na R.wi R.sc.2.2.2.2.1 h2 R.wh ha hr hp p2 hb.2.2 l2 (by rw [R.room ha hr hp]; exact hro))
  · exact rdI R0 (ct_X7_request_bad R.sh R.sc.2.1.2.1 R.na hb) (ct_X8_request_bad (by rw [R.sc.2.2.2.1]; exact hb))
end HO
