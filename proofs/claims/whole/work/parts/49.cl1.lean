/-! Lines of an invoice: both write the same -/
def lsum (ls : List (Int32 × Int32 × Int64 × Int64)) : Int64 := ls.foldl (fun s x => s + x.2.2.2) 0
theorem lsum_app (ls : List (Int32 × Int32 × Int64 × Int64)) (x : Int32 × Int32 × Int64 × Int64) : lsum (ls ++ [x]) = lsum ls + x.2.2.2 := by
  unfold lsum
  rw [List.foldl_append]
  rfl
def LC (g : qH) (i : Nat) (ls : List (Int32 × Int32 × Int64 × Int64)) : Prop := qg_i g 28 i 6 = nI ls.length ∧ (∀ k x, ls[k]? = some x → qg_i g 29 i k = x.1 ∧ qg_i g 30 i k = x.2.1 ∧ qg_l g 31 i k = x.2.2.1 ∧ qg_l g 32 i k = x.2.2.2) ∧ qg_l g 28 i 7 = lsum ls
def LR (g : qH) (ni : Nat) (ls : List (Int32 × Int32 × Int64 × Int64)) : Prop := qg_i g 59 0 ni = nI ls.length ∧ ∀ k x, ls[k]? = some x → qg_l g 60 0 (4 * (60 * ni + k)) = x.1.toInt64 ∧ qg_l g 60 0 (4 * (60 * ni + k) + 1) = x.2.1.toInt64 ∧ qg_l g 60 0 (4 * (60 * ni + k) + 2) = x.2.2.1 ∧ qg_l g 60 0 (4 * (60 * ni + k) + 3) = x.2.2.2
theorem app_get {α : Type} {ls : List α} {x y : α} {k : Nat} (h : (ls ++ [x])[k]? = some y) : (k < ls.length ∧ ls[k]? = some y) ∨ (k = ls.length ∧ y = x) := by
  rcases Nat.lt_or_ge k ls.length with q | q
  · rw [List.getElem?_append_left q] at h
    exact Or.inl ⟨q, h⟩
  · rw [List.getElem?_append_right q] at h
    right
    rcases Nat.eq_zero_or_pos (k - ls.length) with z | z
    · rw [z] at h
      simp at h
      exact ⟨by omega, h.symm⟩
    · rw [List.getElem?_eq_none (by simp; omega)] at h
      cases h
theorem LC.line {g : qH} {i : Nat} {ls : List (Int32 × Int32 × Int64 × Int64)} (C : LC g i ls) (kd rs : Int32) (q m : Int64) : LC (f_line g i ls.length kd rs q m) i (ls ++ [(kd, rs, q, m)]) := by
  obtain ⟨c1, c2, c3⟩ := C
  refine ⟨?_, fun k x hx => ?_, ?_⟩
  · rw [(f_line_fr).2.1, List.length_append]
    rfl
  · have a1 : ∀ k, qg_i (f_line g i ls.length kd rs q m) 29 i k = if k = ls.length then kd else qg_i g 29 i k := fun k => by
      simp [f_line, qii, qil]
    have a2 : ∀ k, qg_i (f_line g i ls.length kd rs q m) 30 i k = if k = ls.length then rs else qg_i g 30 i k := fun k => by
      simp [f_line, qii, qil]
    have a3 : ∀ k, qg_l (f_line g i ls.length kd rs q m) 31 i k = if k = ls.length then q else qg_l g 31 i k := fun k => by
      simp [f_line, qll, qli]
    have a4 : ∀ k, qg_l (f_line g i ls.length kd rs q m) 32 i k = if k = ls.length then m else qg_l g 32 i k := fun k => by
      simp [f_line, qll, qli]
    rw [a1, a2, a3, a4]
    rcases app_get hx with ⟨z, w⟩ | ⟨z, w⟩
    · have : k ≠ ls.length := by omega
      rw [if_neg this, if_neg this, if_neg this, if_neg this]
      exact c2 k x w
    · subst w
      rw [if_pos z, if_pos z, if_pos z, if_pos z]
      exact ⟨rfl, rfl, rfl, rfl⟩
  · rw [(f_line_fr).2.2.1, c3, lsum_app]
theorem LR.line {g : qH} {i : Nat} {ls : List (Int32 × Int32 × Int64 × Int64)} (C : LR g i ls) (kd rs : Int32) (q m : Int64) : LR (m_line g i ls.length kd rs q m) i (ls ++ [(kd, rs, q, m)]) := by
  obtain ⟨c1, c2⟩ := C
  refine ⟨?_, fun k x hx => ?_⟩
  · rw [List.length_append]
    unfold m_line
    rw [rd_ii, if_pos ⟨rfl, rfl⟩]
    rfl
  · have a0 : ∀ y, qg_l (m_line g i ls.length kd rs q m) 60 0 y = if y = 4 * (60 * i + ls.length) + 3 then m else if y = 4 * (60 * i + ls.length) + 2 then q else if y = 4 * (60 * i + ls.length) + 1 then rs.toInt64 else if y = 4 * (60 * i + ls.length) then kd.toInt64 else qg_l g 60 0 y := fun y => by
      unfold m_line
      rw [fr_li, rd_ll, rd_ll, rd_ll, rd_ll]
      simp
    rw [a0, a0, a0, a0]
    rcases app_get hx with ⟨z, w⟩ | ⟨z, w⟩
    · obtain ⟨b1, b2, b3, b4⟩ := c2 k x w
      refine ⟨?_, ?_, ?_, ?_⟩
      · rw [if_neg (by omega), if_neg (by omega), if_neg (by omega), if_neg (by omega)]
        exact b1
      · rw [if_neg (by omega), if_neg (by omega), if_neg (by omega), if_neg (by omega)]
        exact b2
      · rw [if_neg (by omega), if_neg (by omega), if_neg (by omega), if_neg (by omega)]
        exact b3
      · rw [if_neg (by omega), if_neg (by omega), if_neg (by omega), if_neg (by omega)]
        exact b4
    · subst w
      subst z
      refine ⟨?_, ?_, ?_, ?_⟩
      · rw [if_neg (by omega), if_neg (by omega), if_neg (by omega), if_pos rfl]
      · rw [if_neg (by omega), if_neg (by omega), if_pos rfl]
      · rw [if_neg (by omega), if_pos rfl]
      · rw [if_pos rfl]
theorem LR.to {g g' : qH} {i : Nat} {ls : List (Int32 × Int32 × Int64 × Int64)} (C : LR g i ls) (e1 : qg_i g' 59 = qg_i g 59) (e2 : qg_l g' 60 = qg_l g 60) : LR g' i ls := by
  unfold LR
  rw [e1, e2]
  exact C
/-- the two states side by side -/
def JL (a : qH × Nat) (b : qH × Int64 × Nat) (i : Nat) (S : Nat) : Prop := ∃ ls, (LC a.1 i ls ∧ a.2 = ls.length) ∧ (LR b.1 i ls ∧ b.2.1 = lsum ls ∧ b.2.2 = ls.length) ∧ ab (lsum ls) ≤ S
theorem JL.up {a : qH × Nat} {b : qH × Int64 × Nat} {i S S' : Nat} (J : JL a b i S) (h : S ≤ S') : JL a b i S' := by
  obtain ⟨ls, a1, a2, a3⟩ := J
  exact ⟨ls, a1, a2, Nat.le_trans a3 h⟩
theorem JL.line {a : qH × Nat} {b : qH × Int64 × Nat} {i S B : Nat} (J : JL a b i S) {g' : qH} (e1 : qg_i g' 59 = qg_i b.1 59) (e2 : qg_l g' 60 = qg_l b.1 60) (kd rs : Int32) (q m s : Int64) (hs : s = b.2.1 + m) (hm : ab m ≤ B) (hB : S + B < 2 ^ 63) : JL (f_line a.1 i a.2 kd rs q m, a.2 + 1) (m_line g' i b.2.2 kd rs q m, s, b.2.2 + 1) i (S + B) := by
  obtain ⟨ls, ⟨a1, a2⟩, ⟨b1, b2, b3⟩, b4⟩ := J
  refine ⟨ls ++ [(kd, rs, q, m)], ⟨?_, ?_⟩, ⟨?_, ?_, ?_⟩, ?_⟩
  · rw [a2]
    exact a1.line kd rs q m
  · rw [List.length_append, a2]
    rfl
  · rw [b3]
    exact (b1.to e1 e2).line kd rs q m
  · rw [lsum_app, ← b2, hs]
  · rw [List.length_append, b3]
    rfl
  · rw [lsum_app]
    exact (ab_add b4 hm hB).2
theorem jl_1 {h1 hA : qH} {NA t i p K : Nat} {kr : Nat → Nat} {q c : Nat → Int64} (J : JL (h1, 0) (hA, 0, 0) i 0) (hq : ∀ r, r < 4 → q r = f_qty h1 NA t r p ∧ c r = f_cost h1 (8 * t + 2 * r) (kr r) (f_qty h1 NA t r p) ∧ ab (c r) ≤ K) (hK : 4 * K < 2 ^ 62) : ∀ r, r ≤ 4 → JL (f_b1 h1 NA t i p kr (h1, 0) r) (c_1 i t q c hA r) i (r * K)
  | 0, _ => J.up (Nat.zero_le _)
  | r + 1, hr => by
    have ih := jl_1 (kr := kr) J hq hK r (by omega)
    obtain ⟨q1, q2, q3⟩ := hq r (by omega)
    have hm : (r + 1) * K = r * K + K := by rw [Nat.add_mul]; omega
    have hm2 : r * K ≤ 4 * K := Nat.mul_le_mul_right _ (by omega)
    unfold f_b1 c_1
    rw [q1, ← q2, hm]
    split
    · exact ih.line rfl rfl 0 (nI r) _ (c r) _ rfl q3 (by omega)
    · obtain ⟨ls, a1, ⟨b1, b2, b3⟩, b4⟩ := ih
      exact ⟨ls, a1, ⟨b1.to rfl rfl, b2, b3⟩, by omega⟩
theorem jl_2 {h1 hA : qH} {t i S : Nat} {a0 : qH × Nat} {b0 : qH × Int64 × Nat} {b : Nat → Nat} (J : JL a0 b0 i S) (hq : ∀ r, r < 4 → qg_l h1 13 t r = qg_l hA 54 0 (4 * t + r) ∧ qg_l h1 14 t r = qg_l hA 55 0 (4 * t + r) ∧ (qg_i hA 56 0 (4 * t + r) = 0 ↔ ¬ 0 < qg_l h1 13 t r) ∧ ab (qg_l h1 14 t r) ≤ b r) (hS : S + sm_n b 4 < 2 ^ 63) : ∀ r, r ≤ 4 → JL (f_b2 h1 t i a0 r) (c_2 hA i t b0 r) i (S + sm_n b r)
  | 0, _ => J
  | r + 1, hr => by
    have ih := jl_2 J hq hS r (by omega)
    obtain ⟨q1, q2, q3, q4⟩ := hq r (by omega)
    have hb : sm_n b (r + 1) = sm_n b r + b r := rfl
    have hm := sm_n_mono (f := b) (m := r + 1) (n := 4) hr
    unfold f_b2 c_2
    rw [hb] at hm ⊢
    by_cases z : qg_i hA 56 0 (4 * t + r) = 0
    · rw [if_pos z, if_neg (q3.mp z)]
      exact ih.up (by omega)
    · rw [if_neg z, if_pos (Decidable.byContradiction (fun w => z (q3.mpr w))), ← q1, ← q2]
      have := ih.line (g' := (c_2 hA i t b0 r).1) rfl rfl 1 (nI r) (qg_l h1 13 t r) (qg_l h1 14 t r) _ rfl q4 (by omega)
      obtain ⟨ls, a1, ⟨b1, b2, b3⟩, b4⟩ := this
      refine ⟨ls, a1, ⟨b1.to ?_ ?_, b2, b3⟩, by omega⟩
      · unfold z3
        rw [fr_il, fr_il, fr_ii (by decide)]
      · unfold z3
        rw [fr_ll (by decide), fr_ll (by decide), fr_li]
theorem m_part_b {s o : Int64} {S : Nat} (hs : ab s ≤ S) (hS : S ≤ 2 ^ 62) (ho : ab o ≤ 10000) : ab (m_part s o) ≤ S + 40000 := by
  have d1 : (s / 10000).toInt = s.toInt.tdiv 10000 := (ab_div (x := s) (y := 10000) (by decide)).1
  have d2 : ab (s / 10000) * 10000 ≤ ab s := by
    unfold ab
    rw [d1, Int.natAbs_tdiv]
    exact Nat.div_mul_le_self _ _
  have b1 : ab (1 : Int64) ≤ 1 := by decide
  have f1 : ab (q_fdiv s 10000) ≤ ab (s / 10000) + 1 := by
    unfold q_fdiv
    split
    · exact (ab_sub (Nat.le_refl _) b1 (by omega)).2
    · omega
  have r0 : ab (s - s / 10000 * 10000) ≤ 10000 := by
    have := i64_rem_lt s
    rw [i64_rem] at this
    have l1 := Int64.lt_iff_toInt_lt.mp this.1
    have l2 := Int64.lt_iff_toInt_lt.mp this.2
    have c1 : (-10000 : Int64).toInt = -10000 := rfl
    have c2 : (10000 : Int64).toInt = 10000 := rfl
    unfold ab
    omega
  have f2 : ab (q_fmod s 10000) ≤ 20000 := by
    unfold q_fmod
    split
    · exact (ab_add r0 (show ab (10000 : Int64) ≤ 10000 by decide) (by omega)).2
    · omega
  have m1 := ab_mul f1 ho (by omega)
  have m2 := ab_mul f2 ho (by omega)
  have m3 := ab_div (x := q_fmod s 10000 * o) (y := 10000) (by decide)
  have m3' : ab (q_fmod s 10000 * o / 10000) ≤ 20000 := by
    unfold ab
    rw [m3.1, Int.natAbs_tdiv]
    have := m2.2
    unfold ab at this
    show (q_fmod s 10000 * o).toInt.natAbs / 10000 ≤ _
    omega
  have m4 := ab_add m1.2 m3' (by omega)
  have m5 := ab_add m4.2 b1 (by omega)
  have h1 : ab (q_fdiv s 10000 * o + q_fmod s 10000 * o / 10000) ≤ S + 30000 := by omega
  have h2 : ab (q_fdiv s 10000 * o + q_fmod s 10000 * o / 10000 + 1) ≤ S + 40000 := by omega
  unfold m_part
  dsimp only
  split
  · exact h2
  · omega
theorem neg_zero {x : Int64} : -x = 0 ↔ x = 0 := by
  constructor
  · intro h
    have : - -x = 0 := by rw [h]; rfl
    rwa [Int64.neg_neg] at this
  · intro h
    rw [h]
    rfl
theorem JL.t1 {h1 hA : qH} {t i S : Nat} {a : qH × Nat} {b : qH × Int64 × Nat} (J : JL a b i S) (e : qg_i h1 10 t 7 = qg_i hA 47 0 t) (ho : ab (qg_i hA 47 0 t).toInt64 ≤ 10000) (hS : S ≤ 2900000000000000000) : JL (f_T1 h1 t i a) (c_3 hA i t b) i (S + (S + 40000)) := by
  have J0 := J
  obtain ⟨ls, ⟨a1, a2⟩, ⟨b1, b2, b3⟩, b4⟩ := J
  unfold f_T1 f_t1 c_3
  rw [a1.2.2, e, ← b2]
  have hm := m_part_b (s := b.2.1) (o := (qg_i hA 47 0 t).toInt64) (by rw [b2]; exact b4) (by omega) ho
  by_cases z : m_part b.2.1 (qg_i hA 47 0 t).toInt64 = 0
  · rw [if_pos z, if_pos (neg_zero.mpr z)]
    exact J0.up (Nat.le_add_right _ _)
  · rw [if_neg z, if_neg (fun w => z (neg_zero.mp w))]
    refine J0.line rfl rfl 2 (-1) 0 _ _ ?_ ?_ (by omega)
    · grind
    · have : -m_part b.2.1 (qg_i hA 47 0 t).toInt64 = 0 - m_part b.2.1 (qg_i hA 47 0 t).toInt64 := by grind
      rw [this]
      have := (ab_sub (x := 0) (A := 0) (by decide) hm (by omega)).2
      rw [Nat.zero_add] at this
      exact this
def JN (a : qH × Nat) (b : qH × Int64 × Nat) (i : Nat) : Prop := ∃ ls, (LC a.1 i ls ∧ a.2 = ls.length) ∧ (LR b.1 i ls ∧ b.2.1 = lsum ls ∧ b.2.2 = ls.length)
theorem JL.nb {a : qH × Nat} {b : qH × Int64 × Nat} {i S : Nat} (J : JL a b i S) : JN a b i := by
  obtain ⟨ls, a1, a2, -⟩ := J
  exact ⟨ls, a1, a2⟩
theorem JN.line {a : qH × Nat} {b : qH × Int64 × Nat} {i : Nat} (J : JN a b i) (kd rs : Int32) (q m s : Int64) (hs : s = b.2.1 + m) : JN (f_line a.1 i a.2 kd rs q m, a.2 + 1) (m_line b.1 i b.2.2 kd rs q m, s, b.2.2 + 1) i := by
  obtain ⟨ls, ⟨a1, a2⟩, b1, b2, b3⟩ := J
  refine ⟨ls ++ [(kd, rs, q, m)], ⟨?_, ?_⟩, ?_, ?_, ?_⟩
  · rw [a2]
    exact a1.line kd rs q m
  · rw [List.length_append, a2]
    rfl
  · rw [b3]
    exact b1.line kd rs q m
  · rw [lsum_app, ← b2, hs]
  · rw [List.length_append, b3]
    rfl
theorem JL.t2 {h1 hA : qH} {t i S : Nat} {a : qH × Nat} {b : qH × Int64 × Nat} (J : JL a b i S) (e : qg_l h1 10 t 8 = qg_l hA 48 0 t) (ho : 0 ≤ (qg_l hA 48 0 t).toInt ∧ (qg_l hA 48 0 t).toInt ≤ 1000000000000) (hS : S ≤ 6000000000000000000) : JN (f_T2 h1 t i a) (c_4 hA i t b) i := by
  have J0 := J
  obtain ⟨ls, ⟨a1, a2⟩, ⟨b1, b2, b3⟩, b4⟩ := J
  unfold f_T2 f_t1 c_4
  rw [a1.2.2, e, ← b2]
  rw [← b2] at b4
  have hx := ab_sub (x := qg_l hA 48 0 t) (y := b.2.1) (A := 1000000000000) (by unfold ab; omega) b4 (by omega)
  by_cases z : b.2.1 < qg_l hA 48 0 t
  · have z' := Int64.lt_iff_toInt_lt.mp z
    have n1 : ¬ qg_l hA 48 0 t - b.2.1 < 0 := fun w => by
      have := Int64.lt_iff_toInt_lt.mp w
      have c0 : (0 : Int64).toInt = 0 := rfl
      omega
    have n2 : ¬ qg_l hA 48 0 t - b.2.1 = 0 := fun w => by
      have := congrArg Int64.toInt w
      have c0 : (0 : Int64).toInt = 0 := rfl
      omega
    simp only [if_neg n1, if_neg n2, if_pos z]
    refine J0.nb.line 3 (-1) 0 _ _ ?_
    grind
  · have z' : ¬ b.2.1.toInt < (qg_l hA 48 0 t).toInt := fun w => z (Int64.lt_iff_toInt_lt.mpr w)
    rw [if_neg z]
    by_cases w : qg_l hA 48 0 t - b.2.1 < 0
    · simp only [if_pos w, if_true]
      exact J0.nb
    · have n2 : qg_l hA 48 0 t - b.2.1 = 0 := by
        apply Int64.toInt_inj.mp
        have c0 : (0 : Int64).toInt = 0 := rfl
        have : ¬ (qg_l hA 48 0 t - b.2.1).toInt < 0 := fun q => w (Int64.lt_iff_toInt_lt.mpr q)
        omega
      simp only [if_neg w, if_pos n2]
      exact J0.nb
theorem JN.t3 {h1 hA : qH} {t i : Nat} {a : qH × Nat} {b : qH × Int64 × Nat} (J : JN a b i) (e : qg_i h1 10 t 9 = qg_i hA 49 0 t) : JN (f_T3 h1 t i a) (c_5 hA i t b) i := by
  have J0 := J
  obtain ⟨ls, ⟨a1, a2⟩, b1, b2, b3⟩ := J
  unfold f_T3 f_t1 c_5
  rw [a1.2.2, e, ← b2]
  split
  · exact J0
  · exact J0.line 4 (-1) 0 _ _ rfl
/-- credits: what is left, on both sides -/
def CR (g g' : qH) (t nc : Nat) (p : Int32) : Prop := ∀ k, k < nc → f_cl g t k = m_cl g' t k ∧ f_cf g t k = if m_cl g' t k < p then 0 else m_cf g' t k
theorem bst_eq {cl cl' : Nat → Int32} {cf cf' : Nat → Int64} {p : Int32} : ∀ {n : Nat}, (∀ k, k < n → cl k = cl' k ∧ cf k = if cl' k < p then 0 else cf' k) → bst cl cf (-2147483648) n = bst cl' cf' p n
  | 0, _ => rfl
  | n + 1, e => by
    have ih := bst_eq (n := n) (fun k hk => e k (by omega))
    obtain ⟨e1, e2⟩ := e n (by omega)
    have hc : (-2147483648 ≤ cl n ∧ 0 < cf n) ↔ (p ≤ cl' n ∧ 0 < cf' n) := by
      rw [e1, e2]
      have hmin := i32_min (cl' n)
      by_cases z : cl' n < p
      · rw [if_pos z]
        constructor
        · rintro ⟨-, w⟩
          exact absurd w (by decide)
        · rintro ⟨w, -⟩
          exact absurd w (by grind)
      · rw [if_neg z]
        constructor
        · rintro ⟨-, w⟩
          exact ⟨by grind, w⟩
        · rintro ⟨-, w⟩
          exact ⟨by grind, w⟩
    unfold bst
    rw [ih]
    cases hb : bst cl' cf' p n with
    | none =>
      dsimp only
      simp only [hc]
    | some b =>
      have := (bst_some hb).1
      dsimp only
      rw [e1, (e b (by omega)).1]
      rw [e1] at hc
      simp only [hc]
theorem m_min_comm {x y : Int64} : m_min x y = m_min y x := by
  unfold m_min
  split <;> split <;> grind
theorem jl_uc {t nc i : Nat} {p : Int32} : ∀ (f : Nat) (g : qH) (lc : Nat) (g' : qH) (s : Int64) (ls : List (Int32 × Int32 × Int64 × Int64)), LC g i ls → LR g' i ls → s = lsum ls → lc = ls.length → CR g g' t nc p → ∃ ls', LC (f_ucr t nc i f g lc) i ls' ∧ LR (ucr t nc i p f g' s lc) i ls' ∧ ls'.length ≤ ls.length + f ∧ CR (f_ucr t nc i f g lc) (ucr t nc i p f g' s lc) t nc p ∧ (∀ k, 0 < f_cf (f_ucr t nc i f g lc) t k → 0 < f_cf g t k) := by
  intro f
  induction f with
  | zero =>
    intro g lc g' s ls h1 h2 h3 h4 h5
    exact ⟨ls, h1, h2, Nat.le_refl _, h5, fun _ h => h⟩
  | succ f ih =>
    intro g lc g' s ls h1 h2 h3 h4 h5
    unfold f_ucr ucr
    rw [h1.2.2, ← h3]
    by_cases hs : 0 < s
    · rw [if_pos hs, if_pos hs, bst_eq h5]
      cases hb : bst (m_cl g' t) (m_cf g' t) p nc with
      | none =>
        dsimp only
        exact ⟨ls, h1, h2, by omega, h5, fun _ h => h⟩
      | some b =>
        dsimp only
        obtain ⟨b1, b2, b3⟩ := bst_some hb
        obtain ⟨c1, c2⟩ := h5 b b1
        have e7 : qg_l g 28 i 7 = s := by rw [h1.2.2, h3]
        have ecf : f_cf g t b = m_cf g' t b := by rw [c2, if_neg (by grind)]
        have hmm : m_min (m_cf g' t b) s = m_min s (m_cf g' t b) := m_min_comm
        have u1 : fu1 g t i lc b = f_line (qs_l g 16 t b (m_cf g' t b - m_min s (m_cf g' t b))) i ls.length 5 (-1) 0 (-(m_min s (m_cf g' t b))) := by
          unfold fu1
          rw [e7, ecf, hmm, h4]
        have k1 : LC (fu1 g t i lc b) i (ls ++ [(5, -1, 0, -(m_min s (m_cf g' t b)))]) := by
          rw [u1]
          refine LC.line ?_ 5 (-1) 0 _
          unfold LC
          rw [fr_ll (show 31 ≠ 16 by decide), fr_ll (show 32 ≠ 16 by decide), fr_ll (show 28 ≠ 16 by decide)]
          exact h1
        have k2 : LR (uc1 g' t i lc b s) i (ls ++ [(5, -1, 0, -(m_min s (m_cf g' t b)))]) := by
          unfold uc1
          rw [h4]
          exact (h2.line 5 (-1) 0 _).to rfl (fr_ll (by decide))
        have x16 : ∀ k, f_cf (fu1 g t i lc b) t k = if k = b then m_cf g' t b - m_min s (m_cf g' t b) else f_cf g t k := fun k => by
          rw [u1]
          show qg_l _ 16 t k = _
          rw [(f_line_fr).2.2.2.2 16 t k (by decide) (by decide) (by decide), rd_ll]
          simp
          rfl
        have x51 : ∀ k, m_cf (uc1 g' t i lc b s) t k = if k = b then m_cf g' t b - m_min s (m_cf g' t b) else m_cf g' t k := fun k => by
          show qg_l (uc1 g' t i lc b s) 51 0 (40 * t + k) = _
          unfold uc1
          rw [rd_ll]
          by_cases z : k = b
          · rw [if_pos ⟨rfl, by omega⟩, if_pos z]
          · rw [if_neg (by omega), if_neg z]
            unfold m_line
            rw [fr_li, fr_ll (by decide), fr_ll (by decide), fr_ll (by decide), fr_ll (by decide)]
            rfl
        have x17 : ∀ k, f_cl (fu1 g t i lc b) t k = f_cl g t k := fun k => by
          rw [u1]
          exact (f_line_fr).2.2.2.1 17 t k (by decide) (by decide) (by decide)
        have x52 : ∀ k, m_cl (uc1 g' t i lc b s) t k = m_cl g' t k := fun k => by
          show qg_i (uc1 g' t i lc b s) 52 0 (40 * t + k) = _
          unfold uc1 m_line
          rw [fr_il, fr_ii (by decide)]
          rfl
        have k5 : CR (fu1 g t i lc b) (uc1 g' t i lc b s) t nc p := fun k hk => by
          rw [x17, x52, x16, x51]
          refine ⟨(h5 k hk).1, ?_⟩
          by_cases z : k = b
          · rw [if_pos z, if_pos z, if_neg]
            rw [z]
            grind
          · rw [if_neg z, if_neg z]
            exact (h5 k hk).2
        obtain ⟨ls', l1, l2, l3, l4, l5⟩ := ih (fu1 g t i lc b) (lc + 1) (uc1 g' t i lc b s) (s - m_min s (m_cf g' t b)) _ k1 k2 (by rw [lsum_app, ← h3]; grind) (by rw [List.length_append, h4]; rfl) k5
        refine ⟨ls', l1, l2, ?_, l4, fun k hk => ?_⟩
        · rw [List.length_append] at l3
          simp at l3
          omega
        · have := l5 k hk
          rw [x16] at this
          by_cases z : k = b
          · rw [z, ecf]
            exact b3
          · rw [if_neg z] at this
            exact this
    · rw [if_neg hs, if_neg hs]
      exact ⟨ls, h1, h2, by omega, h5, fun _ h => h⟩
