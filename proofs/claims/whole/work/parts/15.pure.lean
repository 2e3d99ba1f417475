/-! Sums, chains, shapes -/
def rm_g : Nat → Option (Nat × Nat) := fun k => match k with
  | 2 => some (34, 0)
  | 3 => some (35, 0)
  | 4 => some (36, 0)
  | 5 => some (37, 0)
  | 7 => some (38, 0)
  | 8 => some (39, 0)
  | 9 => some (40, 0)
  | 11 => some (41, 0)
  | 12 => some (42, 0)
  | 13 => some (43, 0)
  | 14 => some (44, 0)
  | 15 => some (45, 0)
  | 16 => some (46, 0)
  | 17 => some (47, 0)
  | 18 => some (48, 0)
  | 19 => some (49, 0)
  | 20 => some (50, 0)
  | 21 => some (51, 0)
  | 22 => some (52, 0)
  | 23 => some (53, 0)
  | 24 => some (54, 0)
  | 25 => some (55, 0)
  | 26 => some (56, 0)
  | 28 => some (57, 0)
  | 29 => some (58, 0)
  | 30 => some (59, 0)
  | 31 => some (60, 0)
  | _ => none
/-- the reference's object: its arrays -/
def SHR (h : qH) : Prop := ∀ k, qg_r h 33 0 k = rm_g k
theorem sr_2 {h : qH} (S : SHR h) : qg_r h 33 0 2 = some (34, 0) := S 2
theorem sr_3 {h : qH} (S : SHR h) : qg_r h 33 0 3 = some (35, 0) := S 3
theorem sr_4 {h : qH} (S : SHR h) : qg_r h 33 0 4 = some (36, 0) := S 4
theorem sr_5 {h : qH} (S : SHR h) : qg_r h 33 0 5 = some (37, 0) := S 5
theorem sr_7 {h : qH} (S : SHR h) : qg_r h 33 0 7 = some (38, 0) := S 7
theorem sr_8 {h : qH} (S : SHR h) : qg_r h 33 0 8 = some (39, 0) := S 8
theorem sr_9 {h : qH} (S : SHR h) : qg_r h 33 0 9 = some (40, 0) := S 9
theorem sr_11 {h : qH} (S : SHR h) : qg_r h 33 0 11 = some (41, 0) := S 11
theorem sr_12 {h : qH} (S : SHR h) : qg_r h 33 0 12 = some (42, 0) := S 12
theorem sr_13 {h : qH} (S : SHR h) : qg_r h 33 0 13 = some (43, 0) := S 13
theorem sr_14 {h : qH} (S : SHR h) : qg_r h 33 0 14 = some (44, 0) := S 14
theorem sr_15 {h : qH} (S : SHR h) : qg_r h 33 0 15 = some (45, 0) := S 15
theorem sr_16 {h : qH} (S : SHR h) : qg_r h 33 0 16 = some (46, 0) := S 16
theorem sr_17 {h : qH} (S : SHR h) : qg_r h 33 0 17 = some (47, 0) := S 17
theorem sr_18 {h : qH} (S : SHR h) : qg_r h 33 0 18 = some (48, 0) := S 18
theorem sr_19 {h : qH} (S : SHR h) : qg_r h 33 0 19 = some (49, 0) := S 19
theorem sr_20 {h : qH} (S : SHR h) : qg_r h 33 0 20 = some (50, 0) := S 20
theorem sr_21 {h : qH} (S : SHR h) : qg_r h 33 0 21 = some (51, 0) := S 21
theorem sr_22 {h : qH} (S : SHR h) : qg_r h 33 0 22 = some (52, 0) := S 22
theorem sr_23 {h : qH} (S : SHR h) : qg_r h 33 0 23 = some (53, 0) := S 23
theorem sr_24 {h : qH} (S : SHR h) : qg_r h 33 0 24 = some (54, 0) := S 24
theorem sr_25 {h : qH} (S : SHR h) : qg_r h 33 0 25 = some (55, 0) := S 25
theorem sr_26 {h : qH} (S : SHR h) : qg_r h 33 0 26 = some (56, 0) := S 26
theorem sr_28 {h : qH} (S : SHR h) : qg_r h 33 0 28 = some (57, 0) := S 28
theorem sr_29 {h : qH} (S : SHR h) : qg_r h 33 0 29 = some (58, 0) := S 29
theorem sr_30 {h : qH} (S : SHR h) : qg_r h 33 0 30 = some (59, 0) := S 30
theorem sr_31 {h : qH} (S : SHR h) : qg_r h 33 0 31 = some (60, 0) := S 31
def sm_l (f : Nat → Int64) : Nat → Int64
  | 0 => 0
  | n + 1 => sm_l f n + f n
def sm_i (f : Nat → Int32) : Nat → Int32
  | 0 => 0
  | n + 1 => sm_i f n + f n
theorem sm_l_congr {f g : Nat → Int64} : ∀ {n : Nat}, (∀ i, i < n → f i = g i) → sm_l f n = sm_l g n
  | 0, _ => rfl
  | n + 1, h => by
    show sm_l f n + f n = sm_l g n + g n
    rw [sm_l_congr (fun i hi => h i (Nat.lt_succ_of_lt hi)), h n (Nat.lt_succ_self n)]
theorem sm_i_congr {f g : Nat → Int32} : ∀ {n : Nat}, (∀ i, i < n → f i = g i) → sm_i f n = sm_i g n
  | 0, _ => rfl
  | n + 1, h => by
    show sm_i f n + f n = sm_i g n + g n
    rw [sm_i_congr (fun i hi => h i (Nat.lt_succ_of_lt hi)), h n (Nat.lt_succ_self n)]
/-- does a lie in b (or is it b), by the table p of what each lies in (-1: nothing) -/
def ly_n (p : Nat → Int32) : Nat → Nat → Nat → Bool
  | 0, a, b => a == b
  | n + 1, a, b => a == b || (if p a = -1 then false else ly_n p n (p a).toNatClampNeg b)
def ly (p : Nat → Int32) (a b : Nat) : Bool := ly_n p a a b
/-- each lies in an earlier one, or in none -/
def WI (p : Nat → Int32) (n : Nat) : Prop := ∀ a, a < n → p a = -1 ∨ ∃ b, b < a ∧ p a = nI b
theorem ly_fuel {p : Nat → Int32} {N : Nat} (hN : N ≤ 2 ^ 31) (hp : WI p N) : ∀ (n m a : Nat), a < N → a ≤ n → a ≤ m → ∀ b, ly_n p n a b = ly_n p m a b := by
  intro n
  induction n with
  | zero =>
    intro m a haN h1 h2 b
    have : a = 0 := by omega
    subst this
    cases m with
    | zero => rfl
    | succ m =>
      have e : p 0 = -1 := by
        rcases hp 0 haN with e | ⟨c, hc, -⟩
        · exact e
        · omega
      simp [ly_n, e]
  | succ n ih =>
    intro m a haN h1 h2 b
    cases m with
    | zero =>
      have : a = 0 := by omega
      subst this
      have e : p 0 = -1 := by
        rcases hp 0 haN with e | ⟨c, hc, -⟩
        · exact e
        · omega
      simp [ly_n, e]
    | succ m =>
      rcases hp a haN with e | ⟨c, hc, e⟩
      · simp [ly_n, e]
      · simp only [ly_n, e, nI_clamp (show c < 2 ^ 31 by omega)]
        rw [ih m c (by omega) (by omega) (by omega) b]
theorem nI_ne_m1 {n : Nat} (h : n < 2 ^ 31) : ¬ nI n = -1 := fun e => by
  have := congrArg Int32.toInt e
  rw [nI_toInt h] at this
  have h2 : (-1 : Int32).toInt = -1 := rfl
  omega
theorem ly_self (p : Nat → Int32) (a : Nat) : ly p a a = true := by
  unfold ly
  cases a <;> simp [ly_n]
theorem ly_none {p : Nat → Int32} {a b : Nat} (h : p a = -1) (hab : a ≠ b) : ly p a b = false := by
  unfold ly
  cases a <;> simp [ly_n, h, hab]
theorem ly_some {p : Nat → Int32} {N : Nat} (hN : N ≤ 2 ^ 31) (hp : WI p N) {a b c : Nat} (ha : a < N) (hc : c < a) (h : p a = nI c) (hab : a ≠ b) : ly p a b = ly p c b := by
  unfold ly
  cases a with
  | zero => omega
  | succ a =>
    have e : ly_n p (a + 1) (a + 1) b = ly_n p a c b := by
      simp only [ly_n, h, nI_clamp (show c < 2 ^ 31 by omega), if_neg (nI_ne_m1 (show c < 2 ^ 31 by omega))]
      simp [hab]
    rw [e]
    exact ly_fuel hN hp a c c (by omega) (by omega) (Nat.le_refl _) b
theorem ly_le {p : Nat → Int32} {N : Nat} (hN : N ≤ 2 ^ 31) (hp : WI p N) : ∀ {a b : Nat}, a < N → ly p a b = true → b ≤ a := by
  intro a
  induction a using Nat.strongRecOn with
  | _ a ih =>
    intro b ha h
    by_cases hab : a = b
    · omega
    · rcases hp a ha with e | ⟨c, hc, e⟩
      · rw [ly_none e hab] at h
        cases h
      · rw [ly_some hN hp ha hc e hab] at h
        have := ih c hc (by omega) h
        omega
theorem WI.lt {p : Nat → Int32} {n m : Nat} (h : WI p n) (hm : m ≤ n) : WI p m := fun a ha => h a (by omega)
