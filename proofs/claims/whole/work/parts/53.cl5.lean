/-! Call by call: a period is closed -/
section CZ
variable {c : Nat} {h : qH}
def cS (h : qH) (t n : Nat) : Nat := sm_n (fun k => if 0 < qg_l h 16 t k then 1 else 0) n
theorem cS_eq {t : Nat} : ∀ n, sm_i (f_some1 h t) n = nI (cS h t n) ∧ cS h t n ≤ n
  | 0 => ⟨rfl, Nat.le_refl _⟩
  | n + 1 => by
    obtain ⟨a, b⟩ := cS_eq (t := t) n
    have e : cS h t (n + 1) = cS h t n + (if 0 < qg_l h 16 t n then 1 else 0) := rfl
    refine ⟨?_, ?_⟩
    · show sm_i (f_some1 h t) n + f_some1 h t n = _
      rw [a, e]
      unfold f_some1
      split
      · show nI (cS h t n) + nI 1 = _
        rw [nI_add]
      · show nI (cS h t n) + nI 0 = _
        rw [nI_add]
    · rw [e]
      split <;> omega
theorem lsum_sm {f : Nat → Int64} {ls : List (Int32 × Int32 × Int64 × Int64)} (e : ∀ k x, ls[k]? = some x → f k = x.2.2.2) : ∀ n, n ≤ ls.length → sm_l f n = lsum (ls.take n)
  | 0, _ => rfl
  | n + 1, hn => by
    have hx : ls[n]? = some ls[n] := List.getElem?_eq_getElem (by omega)
    show sm_l f n + f n = _
    rw [lsum_sm e n (by omega), e n _ hx, List.take_succ, hx]
    exact (lsum_app _ _).symm
theorem RD.cl {M NA NH NI t p nc : Nat} {C U G : qH} {ls : List (Int32 × Int32 × Int64 × Int64)} (R : RD c h M NA NH NI) (hc : c < 512) (ht : t < 6) (hnc : nc ≤ 40) (hNI : NI < 60) (hp : 1000 * (p + 1) ≤ M) (p2 : qg_i h 10 t 6 = nI p) (p3 : qg_i h 53 0 t = nI p) (ec : qg_i h 15 t 2 = nI nc) (K : CCF h C U NI t p nc) (Q : MCF C G NI t p) (l1 : LC U NI ls) (l2 : LR G NI ls) (l3 : ls.length ≤ 21) (l4 : CR U G t nc (nI p)) (l5 : ∀ k, 0 < f_cf U t k → 0 < qg_l h 16 t k) : RD (c + 1) G M NA NH (NI + 1) := by
  obtain ⟨⟨kr, kr5, kr28, krn, kn⟩, ⟨ki, ki1, ki10, k280, k281⟩, ⟨kl, k16, k16', k13⟩, kpf, klc⟩ := K
  obtain ⟨⟨qr, qn⟩, ⟨qi, qi33, qi53, qi57, qi59, qi56⟩, ql, q46, q54, q55, q51, q60⟩ := Q
  have hM := R.sc.1.1
  have Er : ∀ a, a ∉ [5, 28] → qg_r G a = qg_r h a := fun a ha => by rw [qr, kr a ha]
  have Ei : ∀ a, a ∉ [1, 10, 18, 20, 21, 28, 29, 30, 33, 53, 56, 57, 58, 59] → qg_i G a = qg_i h a := fun a ha => by
    simp only [List.mem_cons, List.not_mem_nil, or_false, not_or] at ha
    rw [qi a (by simp only [List.mem_cons, List.not_mem_nil, or_false, not_or]; omega)]
    funext x y
    exact ki a x y (by simp only [List.mem_cons, List.not_mem_nil, or_false, not_or]; omega) (by omega)
  have El : ∀ a, a ∉ [13, 14, 16, 19, 28, 31, 32, 46, 51, 54, 55, 60] → qg_l G a = qg_l h a := fun a ha => by
    simp only [List.mem_cons, List.not_mem_nil, or_false, not_or] at ha
    rw [ql a (by simp only [List.mem_cons, List.not_mem_nil, or_false, not_or]; omega)]
    funext x y
    exact kl a x y (by simp only [List.mem_cons, List.not_mem_nil, or_false, not_or]; omega) (by omega)
  have c33 : ∀ k, qg_i C 33 0 k = qg_i h 33 0 k := fun k => ki 33 0 k (by decide) (by omega)
  have E33 : ∀ k, k ≠ 27 → qg_i G 33 0 k = qg_i h 33 0 k := fun k hk => by rw [qi33, if_neg hk, c33]
  have E330 := E33 0 (by decide)
  have E336 := E33 6 (by decide)
  have i1 : ∀ k, qg_i G 1 0 k = if k = 9 then nI (NI + 1) else qg_i h 1 0 k := fun k => by rw [qi 1 (by decide), ki1]
  have i10 : ∀ x k, qg_i G 10 x k = if x = t ∧ k = 6 then nI (p + 1) else qg_i h 10 x k := fun x k => by rw [qi 10 (by decide), ki10]
  have i53 : ∀ x, qg_i G 53 0 x = if x = t then nI (p + 1) else qg_i h 53 0 x := fun x => by rw [qi53, ki 53 0 x (by decide) (by omega)]
  have i57 : ∀ x, qg_i G 57 0 x = if x = NI then nI t else qg_i h 57 0 x := fun x => by rw [(qi57 x).1, ki 57 0 x (by decide) (by omega)]
  have i58 : ∀ x, qg_i G 58 0 x = if x = NI then nI p else qg_i h 58 0 x := fun x => by rw [(qi57 x).2, ki 58 0 x (by decide) (by omega)]
  have g46 : ∀ y, qg_l G 46 0 y = if 18 * (24 + 4 * NI) ≤ y ∧ y < 18 * (24 + 4 * NI + 4) then qg_l h 46 0 (y - 18 * (24 + 4 * NI) + 18 * (4 * t)) else qg_l h 46 0 y := fun y => by
    rw [q46, kl 46 0 y (by decide) (by omega), kl 46 0 _ (by decide) (by omega)]
  have gpf : ∀ x, PFE G x C x := fun x => PFE.of (qi 18 (by decide)) (ql 19 (by decide)) (qi 20 (by decide)) (qi 21 (by decide))
  have pf : ∀ x, PFE G x h (if x % 2 = 1 ∧ 8 * t < x ∧ x < 8 * t + 8 then x - 1 else x) := fun x => (gpf x).trans (kpf x)
  have LG := klc ls l1
  refine ⟨?_, R.sr.to (Er 33 (by decide)), ?_, ?_, ?_, R.ba.to (Ei 22 (by decide)) (Ei 34 (by decide)) (Ei 35 (by decide)) (Er 22 (by decide)), R.bl.to (Ei 26 (by decide)) (Ei 36 (by decide)), R.bu.to (El 24 (by decide)) (El 37 (by decide)) (Ei 35 (by decide)), (R.bs.to (El 37 (by decide))).up (Nat.le_succ _), R.h1.to (Ei 27 (by decide)) (Ei 41 (by decide)) (Ei 42 (by decide)) (Ei 43 (by decide)) (Ei 44 (by decide)) (Ei 45 (by decide)) (Er 27 (by decide)) E330, ?_, R.h3.to (Ei 25 (by decide)) (Ei 27 (by decide)) (Er 27 (by decide)) (Er 22 (by decide)), R.bk.to (congrFun (congrFun (Ei 6 (by decide)) 0) 3) E336 (El 7 (by decide)) (Ei 8 (by decide)) (Ei 9 (by decide)) (El 38 (by decide)) (Ei 39 (by decide)) (Ei 40 (by decide)), ?_, ?_, ?_, ?_, ?_, ?_⟩
  · refine ⟨⟨hM, R.na, R.nh, by omega⟩, ⟨?_, ?_, ?_, ?_⟩, ?_, ?_, ?_, ?_⟩
    · rw [i1]; exact R.sc.2.1.1
    · rw [i1]; exact R.sc.2.1.2.1
    · rw [i1]; exact R.sc.2.1.2.2.1
    · rw [i1]; rfl
    · rw [E33 0 (by decide)]; exact R.sc.2.2.1
    · rw [E33 1 (by decide)]; exact R.sc.2.2.2.1
    · rw [E33 10 (by decide)]; exact R.sc.2.2.2.2.1
    · rw [qi33]; rfl
  · have S := R.sh
    unfold SHC at S ⊢
    rw [Er 1 (by decide), Er 6 (by decide), Er 2 (by decide), Er 10 (by decide), Er 15 (by decide), Er 11 (by decide), Er 12 (by decide), Er 18 (by decide), Er 3 (by decide), Er 22 (by decide), Er 23 (by decide), Er 4 (by decide)]
    refine ⟨S.1, S.2.1, S.2.2.1, S.2.2.2.1, S.2.2.2.2.1, S.2.2.2.2.2.1, fun i hi => ?_⟩
    rw [qr, kr5]
    by_cases e : i = NI
    · rw [if_pos e, e]
      exact ⟨rfl, krn⟩
    · rw [if_neg e, kr28 i 2 e, kr28 i 3 e, kr28 i 4 e, kr28 i 5 e]
      exact S.2.2.2.2.2.2 i (by omega)
  · obtain ⟨n1, n6, ⟨n7, n8, n9, n10, n11⟩⟩ := R.sn
    unfold SN
    rw [qn]
    simp only [kn]
    refine ⟨n1, n6, ?_, ?_, ?_, ?_, ?_⟩
    · show qg_n h 28 + 1 = _
      rw [n7]
    · show qg_n h 29 + 1 = _
      rw [n8]
    · show qg_n h 30 + 1 = _
      rw [n9]
    · show qg_n h 31 + 1 = _
      rw [n10]
    · show qg_n h 32 + 1 = _
      rw [n11]
  · intro x hx
    rw [i10, if_neg (by omega)]
    exact R.wn x hx
  · refine R.h2.to ?_ (Ei 27 (by decide))
    rw [i1]
    rfl
  · intro x hx r hr
    have P := pf (8 * x + 2 * r)
    rw [if_neg (by omega)] at P
    refine (R.bp x hx r hr).mv (fun y hy => ?_) P
    rw [g46, if_neg (by omega)]
  · exact R.bt.to (fun x => by rw [i10, if_neg (by omega)]) (fun x => by rw [El 10 (by decide)]) (fun x => by rw [i10, if_neg (by omega)]) (Ei 47 (by decide)) (El 48 (by decide)) (Ei 49 (by decide))
  · intro x hx
    obtain ⟨⟨p0, w0, w1, w2⟩, q, u, b, v1, v2⟩ := R.bz x hx
    have c56 : ∀ y, qg_i C 56 0 y = qg_i h 56 0 y := fun y => ki 56 0 y (by decide) (by omega)
    have c54 : ∀ y, qg_l C 54 0 y = qg_l h 54 0 y := fun y => kl 54 0 y (by decide) (by omega)
    have c55 : ∀ y, qg_l C 55 0 y = qg_l h 55 0 y := fun y => kl 55 0 y (by decide) (by omega)
    have g13 : ∀ r, qg_l G 13 x r = if x = t ∧ r < 4 then 0 else qg_l h 13 x r := fun r => by rw [ql 13 (by decide), (k13 x r).1]
    have g14 : ∀ r, qg_l G 14 x r = if x = t ∧ r < 4 then 0 else qg_l h 14 x r := fun r => by rw [ql 14 (by decide), (k13 x r).2]
    by_cases e : x = t
    · subst e
      refine ⟨⟨p + 1, by omega, by rw [i10, if_pos ⟨rfl, rfl⟩], by rw [i53, if_pos rfl]⟩, fun r hr => ?_, fun _ => 0, fun _ => 0, fun r hr => ?_, (by show 0 + 0 + 0 + 0 ≤ _; exact Nat.zero_le _)⟩
      · obtain ⟨a1, a2, a3, a4⟩ := q r hr
        obtain ⟨b1, b2, b3, b4⟩ := v1 r hr
        have e56 : qg_i G 56 0 (4 * x + r) = 0 := by rw [qi56, if_pos (by omega)]
        rw [g13, g14, if_pos ⟨rfl, hr⟩, if_pos ⟨rfl, hr⟩, e56, q54, q55, c56, c54, c55]
        by_cases z : qg_i h 56 0 (4 * x + r) = 0
        · rw [if_neg (fun y => y.2 z), if_neg (fun y => y.2 z)]
          have n1 := a3.mp z
          have n2 := a4 n1
          rw [b1, nL_pos (by omega)] at n1
          have n3 : u r = 0 := by omega
          refine ⟨?_, ?_, ⟨fun _ => by decide, fun _ => rfl⟩, fun _ => rfl⟩
          · rw [← a1, b1, n3]
            rfl
          · rw [← a2, n2]
        · rw [if_pos ⟨by omega, z⟩, if_pos ⟨by omega, z⟩]
          exact ⟨rfl, rfl, ⟨fun _ => by decide, fun _ => rfl⟩, fun _ => rfl⟩
      · rw [g13, g14, if_pos ⟨rfl, hr⟩, if_pos ⟨rfl, hr⟩]
        refine ⟨rfl, Nat.zero_le _, ?_, ?_⟩
        · show -((0 : Nat) : Int) ≤ (0 : Int64).toInt
          decide
        · show (0 : Int64).toInt ≤ ((0 : Nat) : Int)
          decide
    · refine ⟨⟨p0, w0, by rw [i10, if_neg (fun z => e z.1)]; exact w1, by rw [i53, if_neg e]; exact w2⟩, fun r hr => ?_, u, b, fun r hr => ?_, Nat.le_trans v2 (Nat.mul_le_mul_right _ (Nat.le_succ _))⟩
      · rw [g13, g14, if_neg (fun z => e z.1), if_neg (fun z => e z.1), q54, q55, qi56, if_neg (by omega), if_neg (by omega), if_neg (by omega), c56, c54, c55]
        exact q r hr
      · rw [g13, g14, if_neg (fun z => e z.1), if_neg (fun z => e z.1)]
        obtain ⟨b1, b2, b3⟩ := v1 r hr
        exact ⟨b1, Nat.le_trans b2 (Nat.mul_le_mul_right _ (Nat.le_succ _)), b3⟩
  · intro x hx y hy e
    by_cases ex : x = t
    · subst ex
      rw [i53, if_pos rfl] at e
      have : y = p + 1 := (nI_eq (by omega) (by omega)).mp e.symm
      subst this
      obtain ⟨-, O2⟩ := R.bY x hx p (by omega) p3
      refine ⟨fun _ => ⟨NI, by omega, ⟨?_, ?_⟩, fun i hi => ?_, fun r hr => ?_⟩, fun i hi e2 => ?_⟩
      · rw [i57, if_pos rfl]
      · rw [i58, if_pos rfl]
        rfl
      · rw [i57, i58, if_neg (by omega), if_neg (by omega)]
        rintro ⟨z1, z2⟩
        obtain ⟨q, q1, q2⟩ := O2 i hi z1
        rw [q2] at z2
        have := (nI_eq (by omega) (by omega)).mp z2
        omega
      · have P := pf (8 * x + 2 * r + 1)
        rw [if_pos (by omega)] at P
        refine (R.bp x hx r hr).mv (fun y hy => ?_) P
        rw [g46, if_pos (by omega)]
        congr 1
        omega
      · by_cases ei : i = NI
        · exact ⟨p, by omega, by rw [i58, if_pos ei]⟩
        · rw [i57, if_neg ei] at e2
          obtain ⟨q, q1, q2⟩ := O2 i (by omega) e2
          exact ⟨q, by omega, by rw [i58, if_neg ei]; exact q2⟩
    · rw [i53, if_neg ex] at e
      obtain ⟨O1, O2⟩ := R.bY x hx y hy e
      refine ⟨fun h0 => ?_, fun i hi e2 => ?_⟩
      · obtain ⟨i0, a1, ⟨a2, a3⟩, a4, a5⟩ := O1 h0
        refine ⟨i0, by omega, ⟨?_, ?_⟩, fun i hi => ?_, fun r hr => ?_⟩
        · rw [i57, if_neg (by omega)]
          exact a2
        · rw [i58, if_neg (by omega)]
          exact a3
        · rw [i57, i58, if_neg (by omega), if_neg (by omega)]
          exact a4 i hi
        · have P := pf (8 * x + 2 * r + 1)
          rw [if_neg (by omega)] at P
          refine (a5 r hr).mv (fun y hy => ?_) P
          rw [g46, if_neg (by omega)]
      · by_cases ei : i = NI
        · rw [i57, if_pos ei] at e2
          have := (nI_eq (by omega) (by omega)).mp e2
          omega
        · rw [i57, if_neg ei] at e2
          obtain ⟨q, q1, q2⟩ := O2 i (by omega) e2
          exact ⟨q, q1, by rw [i58, if_neg ei]; exact q2⟩
  · intro x hx
    obtain ⟨n, hn, ⟨a1, a2⟩, a3, s, s1, s2⟩ := R.bc x hx
    have g16 : ∀ k, qg_l G 16 x k = if x = t ∧ k < nc ∧ qg_i h 17 t k ≤ nI p then 0 else qg_l U 16 x k := fun k => by rw [ql 16 (by decide), k16]
    refine ⟨n, hn, ⟨by rw [Ei 15 (by decide)]; exact a1, by rw [Ei 50 (by decide)]; exact a2⟩, fun k hk => ?_, ?_⟩
    · obtain ⟨b1, b2⟩ := a3 k hk
      rw [Ei 17 (by decide), Ei 52 (by decide)]
      refine ⟨b1, ?_⟩
      unfold m_left
      rw [Ei 52 (by decide), i53, g16]
      by_cases e : x = t
      · subst e
        have : n = nc := (nI_eq (by omega) (by omega)).mp (a1.symm.trans ec)
        subst this
        obtain ⟨d1, d2⟩ := l4 k hk
        unfold m_cl m_cf at d2
        rw [Ei 52 (by decide), ← b1] at d2
        rw [if_pos rfl, ← b1]
        have t1 : qg_i h 17 x k < nI (p + 1) ↔ qg_i h 17 x k ≤ nI p := by
          rw [Int32.lt_iff_toInt_lt, Int32.le_iff_toInt_le, nI_toInt (by omega), nI_toInt (by omega)]
          omega
        by_cases z : qg_i h 17 x k ≤ nI p
        · rw [if_pos ⟨rfl, hk, z⟩, if_pos (t1.mpr z)]
        · rw [if_neg (fun w => z w.2.2), if_neg (fun w => z (t1.mp w))]
          show f_cf U x k = _
          rw [d2, if_neg]
          intro w
          exact z (by grind)
      · rw [if_neg (fun z => e z.1), k16' x k e, if_neg e, b2, q51 _ (by omega), kl 51 0 _ (by decide) (by omega)]
        rfl
    · obtain ⟨e1, e2⟩ := cS_eq (h := h) (t := x) n
      obtain ⟨e3, e4⟩ := cS_eq (h := G) (t := x) n
      have es : cS h x n = s := (nI_eq (by omega) (by omega)).mp (e1.symm.trans s2)
      refine ⟨cS G x n, ?_, e3⟩
      refine Nat.le_trans (sm_n_le (fun k hk => ?_)) (es ▸ s1 : cS h x n ≤ 10)
      have mono : 0 < qg_l G 16 x k → 0 < qg_l h 16 x k := fun w => by
        rw [g16] at w
        by_cases z : x = t ∧ k < nc ∧ qg_i h 17 t k ≤ nI p
        · rw [if_pos z] at w
          exact absurd w (by decide)
        · rw [if_neg z] at w
          by_cases e : x = t
          · subst e
            exact l5 k w
          · rw [k16' x k e] at w
            exact w
      show (if _ then _ else _) ≤ (if _ then _ else _)
      by_cases w : 0 < qg_l G 16 x k
      · rw [if_pos w, if_pos (mono w)]
        exact Nat.le_refl _
      · rw [if_neg w]
        exact Nat.zero_le _
  · intro i hi
    by_cases e : i = NI
    · subst e
      obtain ⟨c1, c2, c3⟩ := LG
      obtain ⟨d1, d2⟩ := l2
      refine ⟨⟨?_, ?_⟩, ls.length, l3, ⟨?_, d1⟩, fun k hk => ?_, ?_⟩
      · rw [qi 28 (by decide), i57, if_pos rfl]
        exact k280
      · rw [qi 28 (by decide), i58, if_pos rfl]
        exact k281
      · rw [qi 28 (by decide)]
        exact c1
      · have hx : ls[k]? = some ls[k] := List.getElem?_eq_getElem hk
        obtain ⟨x1, x2, x3, x4⟩ := c2 k _ hx
        obtain ⟨y1, y2, y3, y4⟩ := d2 k _ hx
        rw [qi 29 (by decide), qi 30 (by decide), ql 31 (by decide), ql 32 (by decide), x1, x2, x3, x4, y1, y2, y3, y4]
        exact ⟨rfl, rfl, rfl, rfl⟩
      · rw [ql 28 (by decide), c3]
        unfold m_isum
        rw [lsum_sm (fun k x hx => (d2 k x hx).2.2.2) ls.length (Nat.le_refl _), List.take_length]
    · obtain ⟨⟨a1, a2⟩, lc, b1, ⟨b2, b3⟩, b4, b5⟩ := R.bi i (by omega)
      have f28 : ∀ k, qg_i G 28 i k = qg_i h 28 i k := fun k => by rw [qi 28 (by decide), ki 28 i k (by decide) (Or.inr e)]
      have f60 : ∀ y, y < 240 * NI → qg_l G 60 0 y = qg_l h 60 0 y := fun y hy => by rw [q60 y (Or.inl hy), kl 60 0 y (by decide) (by omega)]
      refine ⟨⟨?_, ?_⟩, lc, b1, ⟨?_, ?_⟩, fun k hk => ?_, ?_⟩
      · rw [f28, i57, if_neg e]
        exact a1
      · rw [f28, i58, if_neg e]
        exact a2
      · rw [f28]
        exact b2
      · rw [qi59 i e, ki 59 0 i (by decide) (by omega)]
        exact b3
      · rw [qi 29 (by decide), qi 30 (by decide), ql 31 (by decide), ql 32 (by decide), ki 29 i k (by decide) (Or.inr e), ki 30 i k (by decide) (Or.inr e), kl 31 i k (by decide) (Or.inr e), kl 32 i k (by decide) (Or.inr e), f60 _ (by omega), f60 _ (by omega), f60 _ (by omega), f60 _ (by omega)]
        exact b4 k hk
      · rw [ql 28 (by decide), kl 28 i 7 (by decide) (Or.inr e), b5]
        unfold m_isum
        exact sm_l_congr (fun k hk => (f60 _ (by omega)).symm)
end CZ
