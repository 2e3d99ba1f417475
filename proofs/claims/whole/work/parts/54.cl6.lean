/-! Call by call: a period is closed, both answers -/
section CY
variable {c : Nat} {h : qH}
theorem cpn_cS {t p : Nat} {P : Int32} : ∀ n, (∀ k, k < n → qg_i h 17 t k = qg_i h 52 0 (40 * t + k) ∧ qg_l h 16 t k = if qg_i h 52 0 (40 * t + k) < P then 0 else qg_l h 51 0 (40 * t + k)) → cpn (m_cl h t) (m_cf h t) P n = cS h t n
  | 0, _ => rfl
  | n + 1, e => by
    have ih := cpn_cS (p := p) n (fun k hk => e k (by omega))
    obtain ⟨e1, e2⟩ := e n (by omega)
    show cpn (m_cl h t) (m_cf h t) P n + _ = cS h t n + (if 0 < qg_l h 16 t n then 1 else 0)
    rw [ih, e2]
    congr 1
    show (if P ≤ qg_i h 52 0 (40 * t + n) ∧ 0 < qg_l h 51 0 (40 * t + n) then 1 else 0) = _
    by_cases z : qg_i h 52 0 (40 * t + n) < P
    · rw [if_pos z, if_neg (fun w => absurd w.1 (by grind))]
      rfl
    · rw [if_neg z]
      by_cases w : 0 < qg_l h 51 0 (40 * t + n)
      · rw [if_pos ⟨by grind, w⟩, if_pos w]
      · rw [if_neg (fun v => w v.2), if_neg w]
theorem RD.cls {M NA NH NI t p nc : Nat} {kr : Nat → Nat} (R : RD c h M NA NH NI) (Z : FRZ h) (hc : c < 512) (ht : t < 6) (hNI : NI < 60) (hp : 1000 * (p + 1) ≤ M) (p2 : qg_i h 10 t 6 = nI p) (p3 : qg_i h 53 0 t = nI p) (hnc : nc ≤ 40) (ec : qg_i h 15 t 2 = nI nc) (ecr : ∀ k, k < nc → qg_i h 17 t k = qg_i h 52 0 (40 * t + k) ∧ qg_l h 16 t k = m_left h t k) (hk : ∀ r, r < 4 → kr r < 5) : RD (c + 1) (m_close (f_close h NA NI t p nc kr) NI t p NA nc 10 kr) M NA NH (NI + 1) := by
  have hM := R.sc.1.1
  have K := ccf_close (h := h) (NA := NA) (NI := NI) (t := t) (p := p) (nc := nc) (kr := kr)
  have fr := f_G_fr (h := h) (NA := NA) (NI := NI) (t := t) (p := p) (kr := kr) (Z 28 NI 6 (by rw [R.sn.2.2.1]; omega)).1
  have g3 := g3_cf (h := h) (NA := NA) (NI := NI) (t := t) (p := p) (kr := kr)
  unfold m_close
  generalize hC : f_close h NA NI t p nc kr = C at *
  have kI := K.2.1.1
  have kL := K.2.2.1.1
  have cq : ∀ r, r < 4 → m_qty (c_A C NI t p) NA (nI t) r p = f_qty (f_h1 h NI t p) NA t r p := fun r hr => by
    have e1 : f_qty (f_h1 h NI t p) NA t r p = f_qty h NA t r p := by
      unfold f_qty f_q1 par ow
      rw [h1_r (by decide), h1_l]
    rw [e1, R.qty ht hr (by omega)]
    exact m_qty_congr (fun a _ => by rw [cA_ia (by decide)]; exact kI 34 0 a (by decide) (by omega)) (fun k => by rw [cA_l]; exact kL 37 0 k (by decide) (by omega))
  have cc : ∀ r, r < 4 → ∀ n, m_cost (c_A C NI t p) (18 * (4 * t + r)) (kr r) n = f_cost (f_h1 h NI t p) (8 * t + 2 * r) (kr r) n := fun r hr n => by
    have e1 : f_cost (f_h1 h NI t p) (8 * t + 2 * r) (kr r) n = f_cost h (8 * t + 2 * r) (kr r) n := by
      unfold f_cost f_cst
      rw [h1_ia (by decide), h1_ia (by decide), h1_ia (by decide), h1_l]
    rw [e1, ← (R.bp t ht r hr).cost (hk r hr)]
    exact m_cost_rows (hk r hr) (fun i _ => by rw [cA_l]; exact kL 46 0 i (by decide) (by omega))
  obtain ⟨⟨p0, w0, w1, w2⟩, q, u, b, v1, v2⟩ := R.bz t ht
  have hcb : c * CB ≤ 511 * CB := Nat.mul_le_mul_right _ (by omega)
  have sb : sm_n b 4 = b 0 + b 1 + b 2 + b 3 := by
    show 0 + b 0 + b 1 + b 2 + b 3 = _
    omega
  have hSb : 4 * 2600000000000000 + sm_n b 4 ≤ 2800000000000000000 := by
    rw [sb]
    have hcb' : c * CB ≤ 511 * 5200000000000000 := hcb
    have : b 0 + b 1 + b 2 + b 3 ≤ 511 * 5200000000000000 := Nat.le_trans v2 hcb'
    omega
  have J0 : JL (f_h1 h NI t p, 0) (c_A C NI t p, 0, 0) NI 0 := by
    refine ⟨[], ⟨⟨?_, fun k x hx => by simp at hx, ?_⟩, rfl⟩, ⟨⟨?_, fun k x hx => by simp at hx⟩, rfl, rfl⟩, by decide⟩
    · rw [h1_i, if_neg (by omega), if_neg (by omega)]
      exact (Z 28 NI 6 (by rw [R.sn.2.2.1]; omega)).1
    · rw [h1_l]
      exact (Z 28 NI 7 (by rw [R.sn.2.2.1]; omega)).2.1
    · rw [cA_i, if_pos ⟨rfl, rfl, rfl⟩]
      rfl
  have J1 := jl_1 (NA := NA) (t := t) (p := p) (K := 2600000000000000) (kr := kr) (q := fun r => m_qty (c_A C NI t p) NA (nI t) r p) (c := fun r => m_cost (c_A C NI t p) (18 * (4 * t + r)) (kr r) (m_qty (c_A C NI t p) NA (nI t) r p)) J0 (fun r hr => by
    refine ⟨cq r hr, ?_, ?_⟩
    · show m_cost _ _ _ _ = _
      rw [cc r hr, cq r hr]
    · show ab (m_cost _ _ _ _) ≤ _
      rw [cc r hr]
      obtain ⟨n, n1, n2⟩ := R.qtyb (t := nI t) (r := r) (p := p) hr (by omega)
      have e3 : m_qty (c_A C NI t p) NA (nI t) r p = nL n := by
        rw [← n2]
        exact m_qty_congr (fun a _ => by rw [cA_ia (by decide)]; exact kI 34 0 a (by decide) (by omega)) (fun k => by rw [cA_l]; exact kL 37 0 k (by decide) (by omega))
      have e1 : ∀ n, f_cost (f_h1 h NI t p) (8 * t + 2 * r) (kr r) n = f_cost h (8 * t + 2 * r) (kr r) n := fun n => by
        unfold f_cost f_cst
        rw [h1_ia (by decide), h1_ia (by decide), h1_ia (by decide), h1_l]
      rw [e3, e1]
      exact f_cost_b (R.bp t ht r hr).2.2 (hk r hr) (by rw [nL_toInt (by omega)]; omega)) (by omega) 4 (Nat.le_refl _)
  have J2 := jl_2 (h1 := f_h1 h NI t p) (hA := c_A C NI t p) (t := t) (b := b) J1 (fun r hr => by
    obtain ⟨a1, a2, a3, a4⟩ := q r hr
    obtain ⟨b1, b2, b3, b4⟩ := v1 r hr
    rw [h1_l, cA_l, cA_ia (by decide), kL 54 0 _ (by decide) (by omega), kL 55 0 _ (by decide) (by omega), kI 56 0 _ (by decide) (by omega)]
    exact ⟨a1, a2, a3, by unfold ab; omega⟩) (by unfold CB at *; omega) 4 (Nat.le_refl _)
  obtain ⟨t1, t2, t3⟩ := R.bt t ht
  have o1 := Int32.le_iff_toInt_le.mp t2.1
  have o2 := Int32.le_iff_toInt_le.mp t2.2
  have o3 := Int64.le_iff_toInt_le.mp t3.1
  have o4 := Int64.le_iff_toInt_le.mp t3.2
  have z0 : (0 : Int32).toInt = 0 := rfl
  have z1 : (10000 : Int32).toInt = 10000 := rfl
  have z2 : (0 : Int64).toInt = 0 := rfl
  have z3 : (1000000000000 : Int64).toInt = 1000000000000 := rfl
  have c47 : qg_i (c_A C NI t p) 47 0 t = qg_i h 47 0 t := by rw [cA_ia (by decide)]; exact kI 47 0 t (by decide) (by omega)
  have c48 : qg_l (c_A C NI t p) 48 0 t = qg_l h 48 0 t := by rw [cA_l]; exact kL 48 0 t (by decide) (by omega)
  have c49 : qg_i (c_A C NI t p) 49 0 t = qg_i h 49 0 t := by rw [cA_ia (by decide)]; exact kI 49 0 t (by decide) (by omega)
  have J2' := J2.up hSb
  have J3 := J2'.t1 (h1 := f_h1 h NI t p) (hA := c_A C NI t p) (t := t) (by rw [c47, h1_ia (by decide)]; exact t1.1) (by rw [c47]; unfold ab; rw [Int32.toInt_toInt64]; omega) (by decide)
  have J4 := J3.t2 (h1 := f_h1 h NI t p) (hA := c_A C NI t p) (t := t) (by rw [c48, h1_l]; exact t1.2.1) (by rw [c48]; omega) (by decide)
  have J5 := J4.t3 (h1 := f_h1 h NI t p) (hA := c_A C NI t p) (t := t) (by rw [c49, h1_ia (by decide)]; exact t1.2.2)
  have J6 : JN (f_G3 h NA NI t p kr) (c_5 (c_A C NI t p) NI t (c_4 (c_A C NI t p) NI t (c_3 (c_A C NI t p) NI t (c_2 (c_A C NI t p) NI t (c_1 NI t (fun r => m_qty (c_A C NI t p) NA (nI t) r p) (fun r => m_cost (c_A C NI t p) (18 * (4 * t + r)) (kr r) (m_qty (c_A C NI t p) NA (nI t) r p)) (c_A C NI t p) 4) 4)))) NI := J5
  obtain ⟨Q, q11, q51, q52⟩ := mcf_close (h := C) (NI := NI) (t := t) (p := p) (nc := nc) (q := fun r => m_qty (c_A C NI t p) NA (nI t) r p) (c := fun r => m_cost (c_A C NI t p) (18 * (4 * t + r)) (kr r) (m_qty (c_A C NI t p) NA (nI t) r p)) ht hnc
  clear J0 J1 J2 J2' J3 J4 J5
  generalize c_5 (c_A C NI t p) NI t (c_4 (c_A C NI t p) NI t (c_3 (c_A C NI t p) NI t (c_2 (c_A C NI t p) NI t (c_1 NI t (fun r => m_qty (c_A C NI t p) NA (nI t) r p) (fun r => m_cost (c_A C NI t p) (18 * (4 * t + r)) (kr r) (m_qty (c_A C NI t p) NA (nI t) r p)) (c_A C NI t p) 4) 4))) = B5 at *
  generalize f_G3 h NA NI t p kr = G3 at *
  obtain ⟨ls, ⟨a1, a2⟩, b1, b2, b3⟩ := J6
  have C0 : CR G3.1 B5.1 t nc (nI p) := fun k hk' => by
    obtain ⟨e1, e2⟩ := ecr k hk'
    unfold m_left at e2
    rw [p3] at e2
    show qg_i G3.1 17 t k = qg_i B5.1 52 0 (40 * t + k) ∧ qg_l G3.1 16 t k = if qg_i B5.1 52 0 (40 * t + k) < nI p then 0 else qg_l B5.1 51 0 (40 * t + k)
    rw [g3.2.1 17 t k (by omega), g3.2.2 16 t k (by omega), h1_ia (by decide), h1_l, q52, q51, kI 52 0 _ (by decide) (by omega), kL 51 0 _ (by decide) (by omega)]
    exact ⟨e1, e2⟩
  obtain ⟨ls', m1, m2, m3, m4, m5⟩ := jl_uc (t := t) (nc := nc) (i := NI) (p := nI p) 10 G3.1 G3.2 B5.1 B5.2.1 ls a1 b1 b2 a2 C0
  have e22 : B5.2.2 = G3.2 := by rw [b3, a2]
  unfold c_7 at Q ⊢
  rw [e22] at Q ⊢
  refine R.cl hc ht hnc hNI hp p2 p3 ec K Q m1 (m2.to ?_ ?_) (by omega) (fun k hk' => ?_) (fun k hk' => ?_)
  · rw [fr_ii (by decide), fr_ii (by decide)]
  · rw [fr_li, fr_li]
  · have := m4 k hk'
    unfold m_cl m_cf at this ⊢
    rw [fr_ii (by decide), fr_ii (by decide), fr_li, fr_li]
    exact this
  · have := m5 k hk'
    unfold f_cf at this
    rw [g3.2.2 16 t k (by omega), h1_l] at this
    exact this
theorem st_close (R : RC c h) (Z : FRZ h) (hc : c < 512) (t : Int32) : ∃ f, qM yX7_close cX7_close 4 ((some .int)) 4 99 5 92 [.inr (.inr (some (1, 0))), .inl t] h (pI f) ∧ ∀ x g, f x g → qM yX8_close cX8_close 10 ((some .int)) 2 62 0 0 [.inr (.inr (some (33, 0))), .inl t] g (pI fun y g' => y = x ∧ RC (c + 1) g') := by
  have R0 := R
  obtain ⟨M, NA, NH, NI, R⟩ := R
  have hM := R.sc.1.1
  by_cases hb : 0 ≤ t ∧ t < 6
  · obtain ⟨t, ht, rfl⟩ : ∃ b, b < 6 ∧ t = nI b := ix_of (n := 6) (by decide) hb
    obtain ⟨⟨p, p1, p2, p3⟩, -⟩ := R.bz t ht
    have e1 : qg_i h 1 0 5 = nI M := R.sc.2.1.1
    have e2 : qg_i h 33 0 0 = nI M := R.sc.2.2.1
    have n1 : nI (1000 * (p + 1)) ≤ nI M ↔ 1000 * (p + 1) ≤ M := nI_leI (by omega) (by omega)
    have n2 : (1000 : Int32) * nI p + 999 = nI (1000 * p + 999) := by rw [show (1000 : Int32) = nI 1000 from rfl, show (999 : Int32) = nI 999 from rfl, pk_mul, nI_add]
    have n3 : nI (1000 * p + 999) < nI M ↔ 1000 * p + 999 < M := nI_ltI (by omega) (by omega)
    by_cases he : 1000 * (p + 1) ≤ M
    · by_cases hf : NI = 60
      · subst hf
        exact rdI R0 (ct_X7_close_full R.sh ht p2 (by rw [e1]; exact n1.mpr he) R.sc.2.1.2.2.2) (ct_X8_close_full R.sr ht p3 (by rw [e2, n2]; exact n3.mpr (by omega)) R.sc.2.2.2.2.2)
      · have hNI : NI < 60 := by have := R.ni; omega
        obtain ⟨nc, hnc, ⟨c1, c2⟩, c3, s, s1, s2⟩ := R.bc t ht
        have hK : ∀ r, ∃ k, r < 4 → k < 5 ∧ 1 ≤ qg_i h 18 (8 * t + 2 * r) 5 ∧ qg_i h 18 (8 * t + 2 * r) 3 = nI (k + 1) ∧ ¬ qg_l h 46 0 (18 * (4 * t + r) + 1) = 0 ∧ (qg_l h 46 0 (18 * (4 * t + r) + 2)).toInt32 = nI (k + 1) := fun r => by
          by_cases hr : r < 4
          · obtain ⟨k, k1, k2, k3, k4, k5⟩ := (R.bp t ht r hr).tc
            exact ⟨k, fun _ => ⟨k1, k5, k2, k4, k3⟩⟩
          · exact ⟨0, fun z => absurd z hr⟩
        obtain ⟨kr, hkr⟩ := Classical.axiomOfChoice hK
        obtain ⟨-, -, m1, m2, m3, m4, m5⟩ := R.sn
        have K := ccf_close (h := h) (NA := NA) (NI := NI) (t := t) (p := p) (nc := nc) (kr := kr)
        have kI := K.2.1.1
        have kL := K.2.2.1.1
        have kR := K.1.1
        have cp : cpn (m_cl (f_close h NA NI t p nc kr) t) (m_cf (f_close h NA NI t p nc kr) t) (nI p) nc ≤ 10 := by
          have f1 : m_cl (f_close h NA NI t p nc kr) t = m_cl h t := by
            funext k
            exact kI 52 0 _ (by decide) (by omega)
          have f2 : m_cf (f_close h NA NI t p nc kr) t = m_cf h t := by
            funext k
            exact kL 51 0 _ (by decide) (by omega)
          rw [f1, f2, cpn_cS (p := p) nc (fun k hk => ⟨(c3 k hk).1, by
            have := (c3 k hk).2
            unfold m_left at this
            rw [p3] at this
            exact this⟩)]
          obtain ⟨g1, g2⟩ := cS_eq (h := h) (t := t) nc
          have : cS h t nc = s := (nI_eq (by omega) (by omega)).mp (g1.symm.trans s2)
          omega
        have C8 := ct_X8_close_ok (h := f_close h NA NI t p nc kr) (ni := NI) (t := t) (p := p) (na := NA) (nc := nc) (f := 10) (kr := kr) (R.sr.to (kR 33 (by decide))) ht hNI (by omega) hnc (by rw [kI 33 0 27 (by decide) (by omega)]; exact R.sc.2.2.2.2.2) (by rw [kI 33 0 1 (by decide) (by omega)]; exact R.sc.2.2.2.1) R.na (by rw [kI 50 0 t (by decide) (by omega)]; exact c2) (by rw [kI 53 0 t (by decide) (by omega)]; exact p3) cp (by omega) (fun r hr => by
          obtain ⟨k1, k2, k3, k4, k5⟩ := hkr r hr
          rw [kL 46 0 _ (by decide) (by omega), kL 46 0 _ (by decide) (by omega)]
          exact ⟨k1, k4, k5⟩) (by rw [kI 33 0 0 (by decide) (by omega), e2, n2]; exact n3.mpr (by omega))
        exact wrI (ct_X7_close_ok R.sh R.sc.2.1.2.1 R.na R.ba.1 R.ba.2.1 R.wn ht (by omega) (fun r hr => by
          obtain ⟨k1, k2, k3, k4, k5⟩ := hkr r hr
          exact ⟨k1, k2, k3⟩) p2 (by rw [e1]; exact n1.mpr he) R.sc.2.1.2.2.2 hNI m1 m2 m3 m4 m5 (Z 28 NI 6 (by omega)).1 c1 hnc) C8 ⟨M, NA, NH, NI + 1, R.cls Z hc ht hNI he p2 p3 hnc c1 c3 (fun r hr => (hkr r hr).1)⟩
    · exact rdI R0 (ct_X7_close_early R.sh ht p2 (by rw [e1]; exact fun z => he (n1.mp z))) (ct_X8_close_early R.sr ht p3 (by rw [e2, n2]; exact fun z => he (by have := n3.mp z; omega)))
  · exact rdI R0 (ct_X7_close_bad hb) (ct_X8_close_bad hb)
end CY
