/-! The class's objects: their shape -/
def SHC (h : qH) (NA NH NI : Nat) : Prop :=
  (qg_r h 1 0 0 = some (2, 0) ∧ qg_r h 1 0 1 = some (3, 0) ∧ qg_r h 1 0 2 = some (4, 0) ∧ qg_r h 1 0 3 = some (5, 0) ∧ qg_r h 1 0 4 = some (6, 0)) ∧
  (qg_r h 6 0 0 = some (7, 0) ∧ qg_r h 6 0 1 = some (8, 0) ∧ qg_r h 6 0 2 = some (9, 0)) ∧
  (∀ t, t < 6 → qg_r h 2 0 t = some (10, t) ∧ qg_r h 10 t 1 = some (11, t) ∧ qg_r h 10 t 2 = some (12, t) ∧ qg_r h 10 t 3 = some (13, t) ∧ qg_r h 10 t 4 = some (14, t) ∧ qg_r h 10 t 5 = some (15, t) ∧ qg_r h 15 t 0 = some (16, t) ∧ qg_r h 15 t 1 = some (17, t) ∧ ∀ k, k < 4 → qg_r h 11 t k = some (18, 8 * t + 2 * k) ∧ qg_r h 12 t k = some (18, 8 * t + 2 * k + 1)) ∧
  (∀ p, p < 48 → qg_r h 18 p 0 = some (19, p) ∧ qg_r h 18 p 1 = some (20, p) ∧ qg_r h 18 p 2 = some (21, p)) ∧
  (∀ a, a < NA → qg_r h 3 0 a = some (22, a) ∧ qg_r h 22 a 3 = some (23, a) ∧ qg_r h 22 a 4 = some (25, a) ∧ qg_r h 22 a 5 = some (26, a) ∧ ∀ k, k < 4 → qg_r h 23 a k = some (24, 4 * a + k)) ∧
  (∀ j, j < NH → qg_r h 4 0 j = some (27, j)) ∧
  (∀ i, i < NI → qg_r h 5 0 i = some (28, i) ∧ qg_r h 28 i 2 = some (29, i) ∧ qg_r h 28 i 3 = some (30, i) ∧ qg_r h 28 i 4 = some (31, i) ∧ qg_r h 28 i 5 = some (32, i))
section SH
variable {h : qH} {NA NH NI : Nat} (S : SHC h NA NH NI)
theorem sh_7_0 (S : SHC h NA NH NI) : qg_r h 1 0 0 = some (2, 0) := S.1.1
theorem sh_7_1 (S : SHC h NA NH NI) : qg_r h 1 0 1 = some (3, 0) := S.1.2.1
theorem sh_7_2 (S : SHC h NA NH NI) : qg_r h 1 0 2 = some (4, 0) := S.1.2.2.1
theorem sh_7_3 (S : SHC h NA NH NI) : qg_r h 1 0 3 = some (5, 0) := S.1.2.2.2.1
theorem sh_7_4 (S : SHC h NA NH NI) : qg_r h 1 0 4 = some (6, 0) := S.1.2.2.2.2
theorem sh_4_0 (S : SHC h NA NH NI) : qg_r h 6 0 0 = some (7, 0) := S.2.1.1
theorem sh_4_1 (S : SHC h NA NH NI) : qg_r h 6 0 1 = some (8, 0) := S.2.1.2.1
theorem sh_4_2 (S : SHC h NA NH NI) : qg_r h 6 0 2 = some (9, 0) := S.2.1.2.2
theorem sa_2 (S : SHC h NA NH NI) {t : Nat} (ht : t < 6) : qg_r h 2 0 t = some (10, t) := (S.2.2.1 t ht).1
theorem sh_6_1 (S : SHC h NA NH NI) {t : Nat} (ht : t < 6) : qg_r h 10 t 1 = some (11, t) := (S.2.2.1 t ht).2.1
theorem sh_6_2 (S : SHC h NA NH NI) {t : Nat} (ht : t < 6) : qg_r h 10 t 2 = some (12, t) := (S.2.2.1 t ht).2.2.1
theorem sh_6_3 (S : SHC h NA NH NI) {t : Nat} (ht : t < 6) : qg_r h 10 t 3 = some (13, t) := (S.2.2.1 t ht).2.2.2.1
theorem sh_6_4 (S : SHC h NA NH NI) {t : Nat} (ht : t < 6) : qg_r h 10 t 4 = some (14, t) := (S.2.2.1 t ht).2.2.2.2.1
theorem sh_6_5 (S : SHC h NA NH NI) {t : Nat} (ht : t < 6) : qg_r h 10 t 5 = some (15, t) := (S.2.2.1 t ht).2.2.2.2.2.1
theorem sh_1_0 (S : SHC h NA NH NI) {t : Nat} (ht : t < 6) : qg_r h 15 t 0 = some (16, t) := (S.2.2.1 t ht).2.2.2.2.2.2.1
theorem sh_1_1 (S : SHC h NA NH NI) {t : Nat} (ht : t < 6) : qg_r h 15 t 1 = some (17, t) := (S.2.2.1 t ht).2.2.2.2.2.2.2.1
theorem sa_11 (S : SHC h NA NH NI) {t k : Nat} (ht : t < 6) (hk : k < 4) : qg_r h 11 t k = some (18, 8 * t + 2 * k) := ((S.2.2.1 t ht).2.2.2.2.2.2.2.2 k hk).1
theorem sa_12 (S : SHC h NA NH NI) {t k : Nat} (ht : t < 6) (hk : k < 4) : qg_r h 12 t k = some (18, 8 * t + 2 * k + 1) := ((S.2.2.1 t ht).2.2.2.2.2.2.2.2 k hk).2
theorem sh_5_0 (S : SHC h NA NH NI) {p : Nat} (hp : p < 48) : qg_r h 18 p 0 = some (19, p) := (S.2.2.2.1 p hp).1
theorem sh_5_1 (S : SHC h NA NH NI) {p : Nat} (hp : p < 48) : qg_r h 18 p 1 = some (20, p) := (S.2.2.2.1 p hp).2.1
theorem sh_5_2 (S : SHC h NA NH NI) {p : Nat} (hp : p < 48) : qg_r h 18 p 2 = some (21, p) := (S.2.2.2.1 p hp).2.2
theorem sa_3 (S : SHC h NA NH NI) {a : Nat} (ha : a < NA) : qg_r h 3 0 a = some (22, a) := (S.2.2.2.2.1 a ha).1
theorem sh_0_3 (S : SHC h NA NH NI) {a : Nat} (ha : a < NA) : qg_r h 22 a 3 = some (23, a) := (S.2.2.2.2.1 a ha).2.1
theorem sh_0_4 (S : SHC h NA NH NI) {a : Nat} (ha : a < NA) : qg_r h 22 a 4 = some (25, a) := (S.2.2.2.2.1 a ha).2.2.1
theorem sh_0_5 (S : SHC h NA NH NI) {a : Nat} (ha : a < NA) : qg_r h 22 a 5 = some (26, a) := (S.2.2.2.2.1 a ha).2.2.2.1
theorem sa_23 (S : SHC h NA NH NI) {a k : Nat} (ha : a < NA) (hk : k < 4) : qg_r h 23 a k = some (24, 4 * a + k) := (S.2.2.2.2.1 a ha).2.2.2.2 k hk
theorem sa_4 (S : SHC h NA NH NI) {j : Nat} (hj : j < NH) : qg_r h 4 0 j = some (27, j) := S.2.2.2.2.2.1 j hj
theorem sa_5 (S : SHC h NA NH NI) {i : Nat} (hi : i < NI) : qg_r h 5 0 i = some (28, i) := (S.2.2.2.2.2.2 i hi).1
theorem sh_3_2 (S : SHC h NA NH NI) {i : Nat} (hi : i < NI) : qg_r h 28 i 2 = some (29, i) := (S.2.2.2.2.2.2 i hi).2.1
theorem sh_3_3 (S : SHC h NA NH NI) {i : Nat} (hi : i < NI) : qg_r h 28 i 3 = some (30, i) := (S.2.2.2.2.2.2 i hi).2.2.1
theorem sh_3_4 (S : SHC h NA NH NI) {i : Nat} (hi : i < NI) : qg_r h 28 i 4 = some (31, i) := (S.2.2.2.2.2.2 i hi).2.2.2.1
theorem sh_3_5 (S : SHC h NA NH NI) {i : Nat} (hi : i < NI) : qg_r h 28 i 5 = some (32, i) := (S.2.2.2.2.2.2 i hi).2.2.2.2
end SH
/-- what an account lies in -/
def par (h : qH) (a : Nat) : Int32 := match qg_r h 22 a 2 with
  | none => -1
  | some o => nI o.2
def WO (h : qH) (n : Nat) : Prop := ∀ a, a < n → qg_r h 22 a 2 = none ∨ ∃ o, o < a ∧ qg_r h 22 a 2 = some (22, o)
theorem WO.wi {h : qH} {n : Nat} (H : WO h n) : WI (par h) n := fun a ha => by
  rcases H a ha with e | ⟨o, ho, e⟩
  · exact Or.inl (by simp [par, e])
  · exact Or.inr ⟨o, ho, by simp [par, e]⟩
theorem par_none {h : qH} {a : Nat} (e : qg_r h 22 a 2 = none) : par h a = -1 := by simp [par, e]
theorem par_some {h : qH} {a o : Nat} (e : qg_r h 22 a 2 = some (22, o)) : par h a = nI o := by simp [par, e]
/-- units added to all along a chain -/
def auF (h : qH) (A : Nat → Bool) (r p : Nat) (u : Int64) : qH := (h.1, h.2.1, fun x y z => if x = 24 ∧ z = p ∧ y % 4 = r ∧ A (y / 4) = true then h.2.2.1 x y z + u else h.2.2.1 x y z, h.2.2.2)
def ahF (h : qH) (A : Nat → Bool) (r : Nat) (u : Int32) : qH := (h.1, fun x y z => if x = 25 ∧ z = r ∧ A y = true then h.2.1 x y z + u else h.2.1 x y z, h.2.2.1, h.2.2.2)
theorem au_one {h : qH} {c r p : Nat} {u : Int64} (hr : r < 4) : qs_l h 24 (4 * c + r) p (qg_l h 24 (4 * c + r) p + u) = auF h (fun b => b == c) r p u := by
  unfold qs_l auF qg_l
  refine congrArg (fun x => (h.1, h.2.1, x, h.2.2.2)) ?_
  funext x y z
  by_cases e : x = 24 ∧ y = 4 * c + r ∧ z = p
  · obtain ⟨rfl, rfl, rfl⟩ := e
    rw [if_pos ⟨rfl, rfl, rfl⟩, if_pos]
    refine ⟨rfl, rfl, by omega, ?_⟩
    simp
    omega
  · rw [if_neg e, if_neg]
    rintro ⟨e1, e2, e3, e4⟩
    simp at e4
    exact e ⟨e1, by omega, e2⟩
theorem au_two {h : qH} {A B : Nat → Bool} {r p : Nat} {u : Int64} (hd : ∀ b, ¬ (A b = true ∧ B b = true)) : auF (auF h A r p u) B r p u = auF h (fun b => A b || B b) r p u := by
  unfold auF
  refine congrArg (fun x => (h.1, h.2.1, x, h.2.2.2)) ?_
  funext x y z
  have := hd (y / 4)
  by_cases e : x = 24 ∧ z = p ∧ y % 4 = r
  · obtain ⟨rfl, rfl, rfl⟩ := e
    cases ha : A (y / 4) <;> cases hb : B (y / 4) <;> simp_all
  · have n1 : ∀ X, ¬ (x = 24 ∧ z = p ∧ y % 4 = r ∧ X = true) := fun X q => e ⟨q.1, q.2.1, q.2.2.1⟩
    simp only [if_neg (n1 _)]
theorem ah_one {h : qH} {c r : Nat} {u : Int32} : qs_i h 25 c r (qg_i h 25 c r + u) = ahF h (fun b => b == c) r u := by
  unfold qs_i ahF qg_i
  refine congrArg (fun x => (h.1, x, h.2.2.1, h.2.2.2)) ?_
  funext x y z
  by_cases e : x = 25 ∧ y = c ∧ z = r
  · obtain ⟨rfl, rfl, rfl⟩ := e
    simp
  · rw [if_neg e, if_neg]
    rintro ⟨e1, e2, e4⟩
    simp at e4
    exact e ⟨e1, e4, e2⟩
theorem ah_two {h : qH} {A B : Nat → Bool} {r : Nat} {u : Int32} (hd : ∀ b, ¬ (A b = true ∧ B b = true)) : ahF (ahF h A r u) B r u = ahF h (fun b => A b || B b) r u := by
  unfold ahF
  refine congrArg (fun x => (h.1, x, h.2.2.1, h.2.2.2)) ?_
  funext x y z
  have := hd y
  by_cases e : x = 25 ∧ z = r
  · obtain ⟨rfl, rfl⟩ := e
    cases ha : A y <;> cases hb : B y <;> simp_all
  · have n1 : ∀ X, ¬ (x = 25 ∧ z = r ∧ X = true) := fun X q => e ⟨q.1, q.2.1⟩
    simp only [if_neg (n1 _)]
theorem ly_split {p : Nat → Int32} {N a c : Nat} (hN : N ≤ 2 ^ 31) (hp : WI p N) (ha : a < N) (hc : c < a) (e : p a = nI c) : (fun b => (b == a) || ly p c b) = ly p a := by
  funext b
  by_cases hb : a = b
  · subst hb
    simp [ly_self]
  · rw [ly_some hN hp ha hc e hb]
    have : (b == a) = false := by simp; exact fun q => hb q.symm
    simp [this]
theorem ly_root {p : Nat → Int32} {a : Nat} (e : p a = -1) : (fun b => b == a) = ly p a := by
  funext b
  by_cases hb : a = b
  · subst hb
    simp [ly_self]
  · rw [ly_none e hb]
    simp
    exact fun q => hb q.symm
theorem ly_apart {p : Nat → Int32} {N a c : Nat} (hN : N ≤ 2 ^ 31) (hp : WI p N) (ha : a < N) (hc : c < a) (b : Nat) : ¬ ((b == a) = true ∧ ly p c b = true) := by
  rintro ⟨e, q⟩
  simp at e
  subst e
  have := ly_le hN hp (show c < N by omega) q
  omega
/-- the least along a chain, any limits and sums -/
def gr1 (l : Int32) (z x : Int64) : Int64 := if l = -1 then x else if z < x then z else x
def grn (pa lim : Nat → Int32) (zz : Nat → Int64) : Nat → Nat → Int64 → Int64
  | 0, a, x => gr1 (lim a) (zz a) x
  | n + 1, a, x => if pa a = -1 then gr1 (lim a) (zz a) x else grn pa lim zz n (pa a).toNatClampNeg (gr1 (lim a) (zz a) x)
theorem grn_fuel {pa lim : Nat → Int32} {zz : Nat → Int64} {N : Nat} (hN : N ≤ 2 ^ 31) (hp : WI pa N) : ∀ (n m a : Nat), a < N → a ≤ n → a ≤ m → ∀ x, grn pa lim zz n a x = grn pa lim zz m a x := by
  intro n
  induction n with
  | zero =>
    intro m a haN h1 h2 x
    have : a = 0 := by omega
    subst this
    cases m with
    | zero => rfl
    | succ m =>
      have e : pa 0 = -1 := by
        rcases hp 0 haN with e | ⟨c, hc, -⟩
        · exact e
        · omega
      simp [grn, e]
  | succ n ih =>
    intro m a haN h1 h2 x
    cases m with
    | zero =>
      have : a = 0 := by omega
      subst this
      have e : pa 0 = -1 := by
        rcases hp 0 haN with e | ⟨c, hc, -⟩
        · exact e
        · omega
      simp [grn, e]
    | succ m =>
      rcases hp a haN with e | ⟨c, hc, e⟩
      · simp [grn, e]
      · simp only [grn, e, nI_clamp (show c < 2 ^ 31 by omega)]
        rw [ih m c (by omega) (by omega) (by omega)]
theorem grn_none {pa lim : Nat → Int32} {zz : Nat → Int64} {a : Nat} {x : Int64} (e : pa a = -1) : grn pa lim zz a a x = gr1 (lim a) (zz a) x := by
  cases a <;> simp [grn, e]
theorem grn_some {pa lim : Nat → Int32} {zz : Nat → Int64} {a c N : Nat} (hN : N ≤ 2 ^ 31) (hp : WI pa N) {x : Int64} (ha : a < N) (hc : c < a) (e : pa a = nI c) : grn pa lim zz a a x = grn pa lim zz c c (gr1 (lim a) (zz a) x) := by
  cases a with
  | zero => omega
  | succ a =>
    simp only [grn, e, nI_clamp (show c < 2 ^ 31 by omega), if_neg (nI_ne_m1 (show c < 2 ^ 31 by omega))]
    exact grn_fuel hN hp a c c (by omega) (by omega) (Nat.le_refl _) _
