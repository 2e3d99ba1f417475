/-! Bounds of what is counted and priced; sums by roots -/
def ab (x : Int64) : Nat := x.toInt.natAbs
theorem ab_add {x y : Int64} {A B : Nat} (h1 : ab x ≤ A) (h2 : ab y ≤ B) (h3 : A + B < 2 ^ 63) : (x + y).toInt = x.toInt + y.toInt ∧ ab (x + y) ≤ A + B := by
  unfold ab at h1 h2
  have e : (x + y).toInt = x.toInt + y.toInt := by
    rw [Int64.toInt_add]
    apply Int.bmod_eq_of_le <;> omega
  refine ⟨e, ?_⟩
  unfold ab
  rw [e]
  omega
theorem ab_sub {x y : Int64} {A B : Nat} (h1 : ab x ≤ A) (h2 : ab y ≤ B) (h3 : A + B < 2 ^ 63) : (x - y).toInt = x.toInt - y.toInt ∧ ab (x - y) ≤ A + B := by
  unfold ab at h1 h2
  have e : (x - y).toInt = x.toInt - y.toInt := by
    rw [Int64.toInt_sub]
    apply Int.bmod_eq_of_le <;> omega
  refine ⟨e, ?_⟩
  unfold ab
  rw [e]
  omega
theorem ab_mul {x y : Int64} {A B : Nat} (h1 : ab x ≤ A) (h2 : ab y ≤ B) (h3 : A * B < 2 ^ 63) : (x * y).toInt = x.toInt * y.toInt ∧ ab (x * y) ≤ A * B := by
  unfold ab at h1 h2
  have h4 := Nat.mul_le_mul h1 h2
  rw [← Int.natAbs_mul] at h4
  have e : (x * y).toInt = x.toInt * y.toInt := by
    rw [Int64.toInt_mul]
    generalize x.toInt * y.toInt = z at *
    generalize A * B = w at *
    apply Int.bmod_eq_of_le <;> omega
  refine ⟨e, ?_⟩
  unfold ab
  rw [e]
  exact h4
theorem ab_div {x y : Int64} (hy : 1 ≤ y.toInt) : (x / y).toInt = x.toInt.tdiv y.toInt ∧ ab (x / y) ≤ ab x := by
  have e : (x / y).toInt = x.toInt.tdiv y.toInt := Int64.toInt_div_of_ne_right _ _ (fun q => by
    rw [q] at hy
    exact absurd hy (by decide))
  refine ⟨e, ?_⟩
  unfold ab
  rw [e, Int.natAbs_tdiv]
  exact Nat.div_le_self _ _
theorem nL_toInt {n : Nat} (h : n < 2 ^ 63) : (nL n).toInt = n := Int64.toInt_ofNat_of_lt h
theorem nL_add {a b : Nat} : nL a + nL b = nL (a + b) := (Int64.ofNat_add a b).symm
theorem nL_ab {n : Nat} (h : n < 2 ^ 63) : ab (nL n) = n := by
  unfold ab
  rw [nL_toInt h]
  omega
theorem nI_i64 {n : Nat} (h : n < 2 ^ 31) : (nI n).toInt64 = nL n := by
  apply Int64.toInt_inj.mp
  rw [Int32.toInt_toInt64, nI_toInt h, nL_toInt (by omega)]
def TB : Nat := 513200000000000
theorem cst1_b {md sz n pr fe un sum : Int64} {S : Nat} (hn : ab n ≤ 513000000) (hz : 1 ≤ sz.toInt ∧ sz.toInt ≤ 100000) (hp : ab pr ≤ 1000000) (hf : ab fe ≤ 1000000000) (hu : ab un ≤ 513000000) (hs : ab sum ≤ S) (hS : S + TB < 2 ^ 63) : ab (cst1 md sz n pr fe un sum) ≤ S + TB := by
  unfold TB at hS ⊢
  unfold cst1
  split
  · have m1 := ab_mul hn hp (by omega)
    have m2 := ab_add m1.2 hf (by omega)
    omega
  · have key : ∀ w : Int64, ab w ≤ 513100001 → ab (sum + (w * pr + fe)) ≤ S + 513200000000000 := fun w hw => by
      have m1 := ab_mul hw hp (by omega)
      have m2 := ab_add m1.2 hf (by omega)
      have m3 := ab_add hs m2.2 (by omega)
      omega
    split
    · have z0 : ab sz ≤ 100000 := by unfold ab; omega
      have z1 := ab_add hu z0 (by omega)
      have z2 := ab_sub (y := 1) z1.2 (show ab 1 ≤ 1 by decide) (by omega)
      have z3 := ab_div (x := un + sz - 1) hz.1
      exact key _ (by omega)
    · exact key _ (by omega)
theorem cst_b {md sz n : Int64} {k : Nat} {la pr fe : Nat → Int64} (hn : 0 ≤ n.toInt ∧ n.toInt ≤ 513000000) (hz : 1 ≤ sz.toInt ∧ sz.toInt ≤ 100000) (hl : ∀ j, j < 5 → 0 ≤ (la j).toInt) (hp : ∀ j, j < 5 → ab (pr j) ≤ 1000000) (hf : ∀ j, j < 5 → ab (fe j) ≤ 1000000000) : ∀ m j, j + m ≤ 5 → ∀ sum be, 0 ≤ be.toInt ∧ be.toInt ≤ n.toInt → ∀ S, ab sum ≤ S → S + m * TB < 2 ^ 63 → ab (cst md sz k la pr fe n m j sum be) ≤ S + m * TB
  | 0, j, _, sum, be, _, S, hs, _ => by
    show ab sum ≤ _
    omega
  | m + 1, j, hj, sum, be, hb, S, hs, hS => by
    have hT : (m + 1) * TB = TB + m * TB := by rw [Nat.add_mul]; omega
    rw [hT] at hS ⊢
    unfold cst
    split
    · have hx : 0 ≤ (if j = k then n else m_min n (la j)).toInt ∧ (if j = k then n else m_min n (la j)).toInt ≤ n.toInt := by
        split
        · omega
        · unfold m_min
          have := hl j (by omega)
          split
          · rename_i q
            have := Int64.lt_iff_toInt_lt.mp q
            omega
          · omega
      generalize (if j = k then n else m_min n (la j)) = x at *
      have a1 : ab x ≤ 513000000 := by unfold ab; omega
      have a2 : ab be ≤ 513000000 := by unfold ab; omega
      have a3 := (ab_sub a1 a2 (by omega)).1
      have a4 : ab (x - be) ≤ 513000000 := by unfold ab; omega
      have a5 := cst1_b (md := md) (show ab n ≤ 513000000 by unfold ab; omega) hz (hp j (by omega)) (hf j (by omega)) a4 hs (by omega)
      have := cst_b (md := md) (k := k) hn hz hl hp hf m (j + 1) (by omega) _ x hx _ a5 (by omega)
      omega
    · omega
theorem f_cost_b {h : qH} {q k : Nat} {n : Int64} (P : PB h q) (hk : k < 5) (hn : 0 ≤ n.toInt ∧ n.toInt ≤ 513000000) : ab (f_cost h q k n) ≤ 2600000000000000 := by
  obtain ⟨-, ⟨b1, b2⟩, -, -, b5⟩ := P
  unfold f_cost f_cst
  have b1 := Int32.le_iff_toInt_le.mp b1
  have b2 := Int32.le_iff_toInt_le.mp b2
  have c1 : (1 : Int32).toInt = 1 := rfl
  have c2 : (100000 : Int32).toInt = 100000 := rfl
  have c3 : (1000000 : Int32).toInt = 1000000 := rfl
  have c4 : (1000000000 : Int32).toInt = 1000000000 := rfl
  have c5 : (0 : Int32).toInt = 0 := rfl
  have c6 : (0 : Int64).toInt = 0 := rfl
  have := cst_b (md := (qg_i h 18 q 4).toInt64) (sz := (qg_i h 18 q 5).toInt64) (k := k) (la := fun j => qg_l h 19 q j) (pr := fun j => (qg_i h 20 q j).toInt64) (fe := fun j => (qg_i h 21 q j).toInt64) hn (by rw [Int32.toInt_toInt64]; omega) (fun j hj => by
    have := Int64.le_iff_toInt_le.mp (b5 j hj).1.1
    omega) (fun j hj => by
    have d1 := Int32.le_iff_toInt_le.mp (b5 j hj).2.1.1
    have d2 := Int32.le_iff_toInt_le.mp (b5 j hj).2.1.2
    unfold ab
    rw [Int32.toInt_toInt64]
    omega) (fun j hj => by
    have d1 := Int32.le_iff_toInt_le.mp (b5 j hj).2.2.1
    have d2 := Int32.le_iff_toInt_le.mp (b5 j hj).2.2.2
    unfold ab
    rw [Int32.toInt_toInt64]
    omega) (k + 1) 0 (by omega) 0 0 (by omega) 0 (by decide) (by unfold TB; omega)
  refine Nat.le_trans this ?_
  have := Nat.mul_le_mul_right TB (show k + 1 ≤ 5 by omega)
  unfold TB at *
  omega
theorem sm_l_add {f g : Nat → Int64} : ∀ n, sm_l (fun i => f i + g i) n = sm_l f n + sm_l g n
  | 0 => rfl
  | n + 1 => by
    show sm_l _ n + (f n + g n) = sm_l f n + f n + (sm_l g n + g n)
    rw [sm_l_add n]
    grind
theorem sm_l_swap {F : Nat → Nat → Int64} : ∀ m n, sm_l (fun a => sm_l (F a) n) m = sm_l (fun b => sm_l (fun a => F a b) m) n
  | 0, n => (sm_l_zero (fun _ _ => rfl)).symm
  | m + 1, n => by
    show sm_l _ m + sm_l (F m) n = sm_l (fun b => sm_l (fun a => F a b) m + F m b) n
    rw [sm_l_add, sm_l_swap m n]
theorem sm_l_single {f : Nat → Int64} {ρ n : Nat} (h : ρ < n) (e : ∀ a, a < n → a ≠ ρ → f a = 0) : sm_l f n = f ρ := by
  rw [sm_l_one (f := fun _ => 0) (g := f) h (fun i hi hne => e i hi hne), sm_l_zero (fun _ _ => rfl)]
  grind
theorem sm_n_le {f g : Nat → Nat} : ∀ {n : Nat}, (∀ i, i < n → f i ≤ g i) → sm_n f n ≤ sm_n g n
  | 0, _ => Nat.le_refl _
  | n + 1, e => Nat.add_le_add (sm_n_le (fun i hi => e i (Nat.lt_succ_of_lt hi))) (e n (Nat.lt_succ_self n))
theorem sm_n_mono {f : Nat → Nat} {m : Nat} : ∀ {n : Nat}, m ≤ n → sm_n f m ≤ sm_n f n
  | 0, h => by
    have : m = 0 := by omega
    subst this
    exact Nat.le_refl _
  | n + 1, h => by
    by_cases e : m = n + 1
    · subst e
      exact Nat.le_refl _
    · exact Nat.le_trans (sm_n_mono (n := n) (by omega)) (Nat.le_add_right _ _)
theorem sm_l_nL {f : Nat → Int64} {s : Nat → Nat} : ∀ {n : Nat}, (∀ i, i < n → f i = nL (s i)) → sm_l f n = nL (sm_n s n)
  | 0, _ => rfl
  | n + 1, e => by
    show sm_l f n + f n = nL (sm_n s n + s n)
    rw [sm_l_nL (fun i hi => e i (by omega)), e n (by omega), nL_add]
section QT
variable {c : Nat} {h : qH}
theorem root_of {NA : Nat} (hN : NA ≤ 24) (O : WO h NA) (B : ∀ a, a < NA → ∀ o, qg_r h 22 a 2 = some (22, o) → ow h o = ow h a) : ∀ a, a < NA → ∃ ρ, ρ ≤ a ∧ ow h ρ = ow h a ∧ ∀ x, (par h x = -1 ∧ ly (par h) a x = true) ↔ x = ρ := by
  intro a
  induction a using Nat.strongRecOn with
  | _ a ih =>
    intro ha
    rcases O a ha with e | ⟨o, ho, e⟩
    · have e1 : par h a = -1 := by
        unfold par
        rw [e]
      refine ⟨a, Nat.le_refl _, rfl, fun x => ⟨fun q => ?_, fun q => ?_⟩⟩
      · by_cases z : a = x
        · exact z.symm
        · rw [ly_none e1 z] at q
          exact absurd q.2 (by decide)
      · subst q
        exact ⟨e1, ly_self _ _⟩
    · have e1 : par h a = nI o := by
        unfold par
        rw [e]
      obtain ⟨ρ, r1, r2, r3⟩ := ih o ho (by omega)
      refine ⟨ρ, by omega, r2.trans (B a ha o e), fun x => ?_⟩
      by_cases z : a = x
      · subst z
        rw [e1]
        refine ⟨fun q => absurd q.1 (nI_ne_m1 (by omega)), fun q => by omega⟩
      · rw [ly_some (by omega) O.wi ha ho e1 z]
        exact r3 x
theorem RD.qty {M NA NH NI t r p : Nat} (R : RD c h M NA NH NI) (ht : t < 6) (hr : r < 4) (hp : p < 100) : f_qty h NA t r p = m_qty h NA (nI t) r p := by
  have hN := R.na
  have s1 : f_qty h NA t r p = sm_l (fun a => sm_l (fun b => if (par h a = -1 ∧ ow h a = t) ∧ ly (par h) b a = true then qg_l h 37 0 ((4 * b + r) * 100 + p) else 0) NA) NA := by
    unfold f_qty
    refine sm_l_congr (fun a ha => ?_)
    unfold f_q1
    by_cases q : par h a = -1 ∧ ow h a = t
    · rw [if_pos q, R.bu a ha r hr p hp]
      unfold m_used
      refine sm_l_congr (fun b hb => ?_)
      rw [R.lyE hb]
      by_cases z : ly (par h) b a = true
      · rw [if_pos z, if_pos ⟨q, z⟩]
      · rw [if_neg z, if_neg (fun y => z y.2)]
    · rw [if_neg q, sm_l_zero (fun b hb => if_neg (fun y => q y.1))]
  rw [s1, sm_l_swap]
  unfold m_qty
  refine sm_l_congr (fun b hb => ?_)
  obtain ⟨ρ, r1, r2, r3⟩ := root_of hN R.ba.1 (fun a ha => (R.ba.2.2 a ha).2.2.2) b hb
  have hρ := (r3 ρ).mpr rfl
  rw [sm_l_single (ρ := ρ) (by omega) (fun a ha hne => if_neg (fun y => hne ((r3 a).mp ⟨y.1.1, y.2⟩)))]
  have e : qg_i h 34 0 b = nI t ↔ ow h ρ = t := by
    rw [(R.ba.2.2 b hb).2.1, r2]
    have := (R.ba.2.1.o2 hb).1
    exact nI_eq (by omega) (by omega)
  by_cases q : ow h ρ = t
  · rw [if_pos ⟨⟨hρ.1, q⟩, hρ.2⟩, if_pos (e.mpr q)]
  · rw [if_neg (fun y => q y.1.2), if_neg (fun y => q (e.mp y))]
theorem RD.qtyb {M NA NH NI r p : Nat} {t : Int32} (R : RD c h M NA NH NI) (hr : r < 4) (hp : p < 100) : ∃ n, n ≤ c * 1000000 ∧ m_qty h NA t r p = nL n := by
  obtain ⟨s, s1, s2, s3⟩ := R.bs r hr p hp
  have hN := R.na
  refine ⟨sm_n (fun a => if qg_i h 34 0 a = t then s a else 0) NA, ?_, ?_⟩
  · refine Nat.le_trans (sm_n_le (g := s) (fun i _ => ?_)) (Nat.le_trans (sm_n_mono hN) s3)
    show (if _ then _ else _) ≤ _
    split <;> omega
  · unfold m_qty
    refine sm_l_nL (fun i hi => ?_)
    rw [s1 i (by omega)]
    split <;> rfl
end QT
