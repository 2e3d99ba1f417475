/-! The start: both objects made -/
section IN
variable {h : qH}
theorem f5_i {g : qH} {p a b k : Nat} : qg_i (f_5 g p) a b k = if a = 18 ∧ b = p ∧ k = 5 then 1 else if a = 18 ∧ b = p ∧ k = 4 then 0 else if a = 18 ∧ b = p ∧ k = 3 then 1 else qg_i g a b k := rfl
theorem f5_l {g : qH} {p a b k : Nat} : qg_l (f_5 g p) a b k = if a = 19 ∧ b = p ∧ k = 0 then 1 else qg_l g a b k := rfl
theorem f5_r {g : qH} {p a b k : Nat} : qg_r (f_5 g p) a b k = if a = 18 ∧ b = p ∧ k = 2 then some (21, p) else if a = 18 ∧ b = p ∧ k = 1 then some (20, p) else if a = 18 ∧ b = p ∧ k = 0 then some (19, p) else qg_r g a b k := rfl
theorem f6_i {g : qH} {t a b k : Nat} : ∀ K, qg_i (f_6 g t K) a b k = if a = 18 ∧ (8 * t ≤ b ∧ b < 8 * t + 2 * K) ∧ (k = 3 ∨ k = 4 ∨ k = 5) then (if k = 4 then 0 else 1) else qg_i g a b k
  | 0 => by
    rw [if_neg (by omega)]
    rfl
  | K + 1 => by
    unfold f_6 f_6b
    rw [fr_ir, f5_i, fr_in, fr_ir, f5_i, fr_in, f6_i K]
    by_cases e : a = 18 ∧ (k = 3 ∨ k = 4 ∨ k = 5)
    · obtain ⟨rfl, e⟩ := e
      by_cases c1 : b = 8 * t + 2 * K + 1
      · rw [if_pos (show 18 = 18 ∧ (8 * t ≤ b ∧ b < 8 * t + 2 * (K + 1)) ∧ (k = 3 ∨ k = 4 ∨ k = 5) by omega)]
        rcases e with rfl | rfl | rfl <;> simp [c1]
      · by_cases c2 : b = 8 * t + 2 * K
        · rw [if_pos (show 18 = 18 ∧ (8 * t ≤ b ∧ b < 8 * t + 2 * (K + 1)) ∧ (k = 3 ∨ k = 4 ∨ k = 5) by omega)]
          rcases e with rfl | rfl | rfl <;> simp [c2]
        · have : (8 * t ≤ b ∧ b < 8 * t + 2 * (K + 1)) ↔ (8 * t ≤ b ∧ b < 8 * t + 2 * K) := by omega
          simp only [this, c1, c2, and_false, false_and, if_false]
    · rw [if_neg (by omega), if_neg (by omega), if_neg (by omega), if_neg (by omega), if_neg (by omega), if_neg (by omega), if_neg (by omega), if_neg (by omega)]
theorem f6_l {g : qH} {t a b k : Nat} : ∀ K, qg_l (f_6 g t K) a b k = if a = 19 ∧ (8 * t ≤ b ∧ b < 8 * t + 2 * K) ∧ k = 0 then 1 else qg_l g a b k
  | 0 => by
    rw [if_neg (by omega)]
    rfl
  | K + 1 => by
    unfold f_6 f_6b
    rw [fr_lr, f5_l]
    show (if _ then _ else qg_l (f_5 (qs_n (f_6 g t K) 18) (8 * t + 2 * K)) a b k) = _
    rw [f5_l]
    show (if _ then _ else if _ then _ else qg_l (f_6 g t K) a b k) = _
    rw [f6_l K]
    by_cases e : a = 19 ∧ k = 0
    · obtain ⟨rfl, rfl⟩ := e
      by_cases c1 : b = 8 * t + 2 * K + 1
      · rw [if_pos ⟨rfl, c1, rfl⟩, if_pos (by omega)]
      · by_cases c2 : b = 8 * t + 2 * K
        · rw [if_neg (by omega), if_pos ⟨rfl, c2, rfl⟩, if_pos (by omega)]
        · rw [if_neg (by omega), if_neg (by omega)]
          have : (8 * t ≤ b ∧ b < 8 * t + 2 * (K + 1)) ↔ (8 * t ≤ b ∧ b < 8 * t + 2 * K) := by omega
          simp only [this]
    · rw [if_neg (by omega), if_neg (by omega), if_neg (by omega), if_neg (by omega)]
theorem f6_r18 {g : qH} {t b k : Nat} (hk : k < 3) : ∀ K, qg_r (f_6 g t K) 18 b k = if 8 * t ≤ b ∧ b < 8 * t + 2 * K then some (19 + k, b) else qg_r g 18 b k
  | 0 => by
    rw [if_neg (by omega)]
    rfl
  | K + 1 => by
    unfold f_6 f_6b
    rw [fr_rr (by decide), f5_r, fr_rn, fr_rr (by decide), f5_r, fr_rn, f6_r18 hk K]
    by_cases c1 : b = 8 * t + 2 * K + 1
    · rw [if_pos (show 8 * t ≤ b ∧ b < 8 * t + 2 * (K + 1) by omega)]
      rcases (show k = 0 ∨ k = 1 ∨ k = 2 by omega) with rfl | rfl | rfl <;> simp [c1]
    · by_cases c2 : b = 8 * t + 2 * K
      · rw [if_pos (show 8 * t ≤ b ∧ b < 8 * t + 2 * (K + 1) by omega)]
        rcases (show k = 0 ∨ k = 1 ∨ k = 2 by omega) with rfl | rfl | rfl <;> simp [c2]
      · have : (8 * t ≤ b ∧ b < 8 * t + 2 * (K + 1)) ↔ (8 * t ≤ b ∧ b < 8 * t + 2 * K) := by omega
        simp only [this, c1, c2, and_false, false_and, if_false]
theorem f6_r11 {g : qH} {t b k : Nat} : ∀ K, qg_r (f_6 g t K) 11 b k = (if b = t ∧ k < K then some (18, 8 * t + 2 * k) else qg_r g 11 b k) ∧ qg_r (f_6 g t K) 12 b k = (if b = t ∧ k < K then some (18, 8 * t + 2 * k + 1) else qg_r g 12 b k)
  | 0 => by
    rw [if_neg (by omega), if_neg (by omega)]
    exact ⟨rfl, rfl⟩
  | K + 1 => by
    obtain ⟨a1, a2⟩ := f6_r11 K
    unfold f_6 f_6b
    refine ⟨?_, ?_⟩
    · rw [fr_rr (by decide), f5_r, if_neg (by omega), if_neg (by omega), if_neg (by omega), fr_rn, qrr, f5_r, if_neg (show ¬ (11 = 18 ∧ _) by omega), if_neg (show ¬ (11 = 18 ∧ _) by omega), if_neg (show ¬ (11 = 18 ∧ _) by omega), fr_rn, a1]
      by_cases c : b = t ∧ k = K
      · obtain ⟨rfl, rfl⟩ := c
        simp
      · rw [if_neg (by omega)]
        have : (b = t ∧ k < K + 1) ↔ (b = t ∧ k < K) := by omega
        simp only [this]
    · rw [qrr, f5_r, if_neg (show ¬ (12 = 18 ∧ _) by omega), if_neg (show ¬ (12 = 18 ∧ _) by omega), if_neg (show ¬ (12 = 18 ∧ _) by omega), fr_rn, fr_rr (by decide), f5_r, if_neg (show ¬ (12 = 18 ∧ _) by omega), if_neg (show ¬ (12 = 18 ∧ _) by omega), if_neg (show ¬ (12 = 18 ∧ _) by omega), fr_rn, a2]
      by_cases c : b = t ∧ k = K
      · obtain ⟨rfl, rfl⟩ := c
        simp
      · rw [if_neg (by omega)]
        have : (b = t ∧ k < K + 1) ↔ (b = t ∧ k < K) := by omega
        simp only [this]
theorem f6_ro {g : qH} {t a : Nat} (e : a ∉ [11, 12, 18]) : ∀ K, qg_r (f_6 g t K) a = qg_r g a
  | 0 => rfl
  | K + 1 => by
    have ih := f6_ro (g := g) (t := t) e K
    simp only [List.mem_cons, List.not_mem_nil, or_false, not_or] at e
    unfold f_6 f_6b
    rw [fr_rr e.2.1]
    funext x y
    rw [f5_r, if_neg (fun z => e.2.2 z.1), if_neg (fun z => e.2.2 z.1), if_neg (fun z => e.2.2 z.1), fr_rn, fr_rr e.1, f5_r, if_neg (fun z => e.2.2 z.1), if_neg (fun z => e.2.2 z.1), if_neg (fun z => e.2.2 z.1), fr_rn, ih]
theorem f6a_i {g : qH} {t a b k : Nat} : qg_i (f_6a g t) a b k = if a = 10 ∧ b = t ∧ k = 0 then nI t else qg_i g a b k := rfl
theorem f6a_l {g : qH} {t : Nat} : qg_l (f_6a g t) = qg_l g := rfl
theorem f6a_r10 {g : qH} {t b k : Nat} (h1 : 1 ≤ k) (h5 : k ≤ 5) : qg_r (f_6a g t) 10 b k = if b = t then some (10 + k, t) else qg_r g 10 b k := by
  rcases (show k = 1 ∨ k = 2 ∨ k = 3 ∨ k = 4 ∨ k = 5 by omega) with rfl | rfl | rfl | rfl | rfl <;> simp [f_6a, f_1, qrr, qri, qrn]
theorem f6a_r15 {g : qH} {t b k : Nat} (h1 : k < 2) : qg_r (f_6a g t) 15 b k = if b = t then some (16 + k, t) else qg_r g 15 b k := by
  rcases (show k = 0 ∨ k = 1 by omega) with rfl | rfl <;> simp [f_6a, f_1, qrr, qri, qrn]
theorem f6a_ro {g : qH} {t a : Nat} (e1 : a ≠ 10) (e2 : a ≠ 15) : qg_r (f_6a g t) a = qg_r g a := by
  funext x y
  simp [f_6a, f_1, qrr, qri, qrn, e1, e2]
theorem f7_i {g : qH} {a b k : Nat} : ∀ T, qg_i (f_7 g T) a b k = if a = 18 ∧ b < 8 * T ∧ (k = 3 ∨ k = 4 ∨ k = 5) then (if k = 4 then 0 else 1) else if a = 10 ∧ b < T ∧ k = 0 then nI b else qg_i g a b k
  | 0 => by
    rw [if_neg (by omega), if_neg (by omega)]
    rfl
  | T + 1 => by
    unfold f_7 f_7b
    rw [fr_ir, f6_i, f6a_i, fr_in, f7_i T]
    by_cases e : a = 18
    · subst e
      simp only [show ¬ (18 : Nat) = 10 by decide, false_and, if_false, true_and]
      by_cases c : (8 * T ≤ b ∧ b < 8 * T + 2 * 4) ∧ (k = 3 ∨ k = 4 ∨ k = 5)
      · rw [if_pos c, if_pos (show b < 8 * (T + 1) ∧ (k = 3 ∨ k = 4 ∨ k = 5) by omega)]
      · rw [if_neg c]
        by_cases c2 : b < 8 * T ∧ (k = 3 ∨ k = 4 ∨ k = 5)
        · rw [if_pos c2, if_pos (show b < 8 * (T + 1) ∧ (k = 3 ∨ k = 4 ∨ k = 5) by omega)]
        · rw [if_neg c2, if_neg (show ¬ (b < 8 * (T + 1) ∧ (k = 3 ∨ k = 4 ∨ k = 5)) by omega)]
    · simp only [e, false_and, if_false]
      by_cases c : a = 10 ∧ b = T ∧ k = 0
      · rw [if_pos c, if_pos (show a = 10 ∧ b < T + 1 ∧ k = 0 by omega), c.2.1]
      · rw [if_neg c]
        have : (a = 10 ∧ b < T + 1 ∧ k = 0) ↔ (a = 10 ∧ b < T ∧ k = 0) := by omega
        simp only [this]
theorem f7_l {g : qH} {a b k : Nat} : ∀ T, qg_l (f_7 g T) a b k = if a = 19 ∧ b < 8 * T ∧ k = 0 then 1 else qg_l g a b k
  | 0 => by
    rw [if_neg (by omega)]
    rfl
  | T + 1 => by
    unfold f_7 f_7b
    rw [fr_lr, f6_l, f6a_l]
    show (if _ then _ else qg_l (f_7 g T) a b k) = _
    rw [f7_l T]
    by_cases c : a = 19 ∧ (8 * T ≤ b ∧ b < 8 * T + 2 * 4) ∧ k = 0
    · rw [if_pos c, if_pos (by omega)]
    · rw [if_neg c]
      have : (a = 19 ∧ b < 8 * (T + 1) ∧ k = 0) ↔ (a = 19 ∧ b < 8 * T ∧ k = 0) := by omega
      simp only [this]
theorem f7_r18 {g : qH} {b k : Nat} (hk : k < 3) : ∀ T, qg_r (f_7 g T) 18 b k = if b < 8 * T then some (19 + k, b) else qg_r g 18 b k
  | 0 => by
    rw [if_neg (by omega)]
    rfl
  | T + 1 => by
    unfold f_7 f_7b
    rw [fr_rr (by decide), f6_r18 hk, f6a_ro (by decide) (by decide), fr_rn, f7_r18 hk T]
    by_cases c : 8 * T ≤ b ∧ b < 8 * T + 2 * 4
    · rw [if_pos c, if_pos (by omega)]
    · rw [if_neg c]
      have : (b < 8 * (T + 1)) ↔ b < 8 * T := by omega
      simp only [this]
theorem f7_r11 {g : qH} {b k : Nat} (hk : k < 4) : ∀ T, qg_r (f_7 g T) 11 b k = (if b < T then some (18, 8 * b + 2 * k) else qg_r g 11 b k) ∧ qg_r (f_7 g T) 12 b k = (if b < T then some (18, 8 * b + 2 * k + 1) else qg_r g 12 b k)
  | 0 => by
    rw [if_neg (by omega), if_neg (by omega)]
    exact ⟨rfl, rfl⟩
  | T + 1 => by
    obtain ⟨a1, a2⟩ := f7_r11 hk T
    unfold f_7 f_7b
    rw [fr_rr (show 11 ≠ 2 by decide), fr_rr (show 12 ≠ 2 by decide), (f6_r11 4).1, (f6_r11 4).2, f6a_ro (show 11 ≠ 10 by decide) (show 11 ≠ 15 by decide), f6a_ro (show 12 ≠ 10 by decide) (show 12 ≠ 15 by decide), fr_rn, a1, a2]
    by_cases c : b = T
    · subst c
      refine ⟨?_, ?_⟩
      · rw [if_pos ⟨rfl, hk⟩, if_pos (by omega)]
      · rw [if_pos ⟨rfl, hk⟩, if_pos (by omega)]
    · have : (b < T + 1) ↔ b < T := by omega
      refine ⟨?_, ?_⟩
      · rw [if_neg (fun z => c z.1)]
        simp only [this]
      · rw [if_neg (fun z => c z.1)]
        simp only [this]
theorem f7_r10 {g : qH} {b k : Nat} (h1 : 1 ≤ k) (h5 : k ≤ 5) : ∀ T, qg_r (f_7 g T) 10 b k = if b < T then some (10 + k, b) else qg_r g 10 b k
  | 0 => by
    rw [if_neg (by omega)]
    rfl
  | T + 1 => by
    unfold f_7 f_7b
    rw [fr_rr (by decide), f6_ro (by decide), f6a_r10 h1 h5, fr_rn, f7_r10 h1 h5 T]
    by_cases c : b = T
    · subst c
      rw [if_pos rfl, if_pos (by omega)]
    · rw [if_neg c]
      have : (b < T + 1) ↔ b < T := by omega
      simp only [this]
theorem f7_r15 {g : qH} {b k : Nat} (h1 : k < 2) : ∀ T, qg_r (f_7 g T) 15 b k = if b < T then some (16 + k, b) else qg_r g 15 b k
  | 0 => by
    rw [if_neg (by omega)]
    rfl
  | T + 1 => by
    unfold f_7 f_7b
    rw [fr_rr (by decide), f6_ro (by decide), f6a_r15 h1, fr_rn, f7_r15 h1 T]
    by_cases c : b = T
    · subst c
      rw [if_pos rfl, if_pos (by omega)]
    · rw [if_neg c]
      have : (b < T + 1) ↔ b < T := by omega
      simp only [this]
theorem f7_r2 {g : qH} {k : Nat} : ∀ T, qg_r (f_7 g T) 2 0 k = if k < T then some (10, k) else qg_r g 2 0 k
  | 0 => by
    rw [if_neg (by omega)]
    rfl
  | T + 1 => by
    unfold f_7 f_7b
    rw [qrr, f6_ro (by decide), f6a_ro (by decide) (by decide), fr_rn, f7_r2 T]
    by_cases c : k = T
    · subst c
      simp
    · rw [if_neg (by omega)]
      have : (k < T + 1) ↔ k < T := by omega
      simp only [this]
theorem f7_ro {g : qH} {a : Nat} (e : a ∉ [2, 10, 11, 12, 15, 18]) : ∀ T, qg_r (f_7 g T) a = qg_r g a
  | 0 => rfl
  | T + 1 => by
    have ih := f7_ro (g := g) e T
    simp only [List.mem_cons, List.not_mem_nil, or_false, not_or] at e
    unfold f_7 f_7b
    rw [fr_rr e.1, f6_ro (by simp only [List.mem_cons, List.not_mem_nil, or_false, not_or]; omega), f6a_ro (by omega) (by omega), fr_rn, ih]
theorem f7a_r : (∀ k, k < 5 → qg_r (f_7a h) 1 0 k = some (2 + k, 0)) ∧ ∀ k, k < 3 → qg_r (f_7a h) 6 0 k = some (7 + k, 0) := by
  refine ⟨fun k hk => ?_, fun k hk => ?_⟩
  · rcases (show k = 0 ∨ k = 1 ∨ k = 2 ∨ k = 3 ∨ k = 4 by omega) with rfl | rfl | rfl | rfl | rfl <;> rfl
  · rcases (show k = 0 ∨ k = 1 ∨ k = 2 by omega) with rfl | rfl | rfl <;> rfl
theorem f8a_ro {a : Nat} (e : a ≠ 33) : qg_r (f_8a h) a = qg_r h a := by
  funext x y
  simp only [f_8a, qrr, qrn, e, false_and, if_false]
theorem f8a_l : qg_l (f_8a h) = qg_l h := by
  unfold f_8a
  simp only [qlr, qln]
theorem f8a_i : qg_i (f_8a h) = qg_i h := by
  unfold f_8a
  simp only [qir, qin]
theorem f8_l {g : qH} {y : Nat} : ∀ K, qg_l (f_8 g K) 46 0 y = if y < 18 * K ∧ (y % 18 = 1 ∨ y % 18 = 2 ∨ y % 18 = 3) then 1 else qg_l g 46 0 y
  | 0 => by
    rw [if_neg (by omega)]
    rfl
  | K + 1 => by
    unfold f_8
    rw [rd_ll, rd_ll, rd_ll, f8_l K]
    by_cases c : y = 18 * K + 1 ∨ y = 18 * K + 2 ∨ y = 18 * K + 3
    · rw [if_pos (show y < 18 * (K + 1) ∧ (y % 18 = 1 ∨ y % 18 = 2 ∨ y % 18 = 3) by omega)]
      rcases c with c | c | c <;> simp [c]
    · rw [if_neg (by omega), if_neg (by omega), if_neg (by omega)]
      have : (y < 18 * (K + 1) ∧ (y % 18 = 1 ∨ y % 18 = 2 ∨ y % 18 = 3)) ↔ (y < 18 * K ∧ (y % 18 = 1 ∨ y % 18 = 2 ∨ y % 18 = 3)) := by omega
      simp only [this]
theorem f8_o {g : qH} {a : Nat} (e : a ≠ 46) : ∀ K, qg_l (f_8 g K) a = qg_l g a
  | 0 => rfl
  | K + 1 => by
    unfold f_8
    rw [fr_ll e, fr_ll e, fr_ll e, f8_o e K]
theorem f8_i {g : qH} : ∀ K, qg_i (f_8 g K) = qg_i g ∧ qg_n (f_8 g K) = qg_n g
  | 0 => ⟨rfl, rfl⟩
  | K + 1 => f8_i K
/-- nothing is there but the script -/
def B0 (h : qH) : Prop := (∀ r, r ≠ 0 → qg_n h r = 0) ∧ ∀ r i k, r ≠ 0 → qg_i h r i k = 0 ∧ qg_l h r i k = 0 ∧ qg_r h r i k = none
def g_7 (h : qH) : qH := f_7 (f_7a (qs_n h 1)) 6
def g_8 (h : qH) : qH := f_8 (f_8a (qs_n (g_7 h) 33)) 24
theorem g7_n (B : B0 h) : (∀ r, 22 ≤ r → qg_n (g_7 h) r = 0) := fun r hr => by
  have C : nC (f_7a (qs_n h 1)) 0 := by
    have z : ∀ r, 10 ≤ r → qg_n (f_7a (qs_n h 1)) r = 0 := fun r hr => by
      have : qg_n (f_7a (qs_n h 1)) r = qg_n h r := by
        have e : ∀ j, j < 10 → r ≠ j := fun j hj => by omega
        simp only [f_7a, f_4, qnn, qnr, e 1 (by decide), e 2 (by decide), e 3 (by decide), e 4 (by decide), e 5 (by decide), e 6 (by decide), e 7 (by decide), e 8 (by decide), e 9 (by decide), if_false]
      rw [this]
      exact B.1 r (by omega)
    exact ⟨fun r h1 _ => z r h1, z 18 (by decide), z 19 (by decide), z 20 (by decide), z 21 (by decide)⟩
  unfold g_7
  rw [(f7_n C 6).2 r (by omega)]
  have e : ∀ j, j < 10 → r ≠ j := fun j hj => by omega
  simp only [f_7a, f_4, qnn, qnr, e 1 (by decide), e 2 (by decide), e 3 (by decide), e 4 (by decide), e 5 (by decide), e 6 (by decide), e 7 (by decide), e 8 (by decide), e 9 (by decide), if_false]
  exact B.1 r (by omega)
theorem g8_i {a b k : Nat} : qg_i (g_8 h) a b k = if a = 18 ∧ b < 8 * 6 ∧ (k = 3 ∨ k = 4 ∨ k = 5) then (if k = 4 then 0 else 1) else if a = 10 ∧ b < 6 ∧ k = 0 then nI b else qg_i h a b k := by
  unfold g_8
  rw [(f8_i 24).1, f8a_i, qin]
  unfold g_7
  rw [f7_i]
  rfl
theorem g8_l {a b k : Nat} (e : a ≠ 46) : qg_l (g_8 h) a b k = if a = 19 ∧ b < 8 * 6 ∧ k = 0 then 1 else qg_l h a b k := by
  unfold g_8
  rw [f8_o e, f8a_l, qln]
  unfold g_7
  rw [f7_l]
  rfl
theorem g8_46 (B : B0 h) {y : Nat} : qg_l (g_8 h) 46 0 y = if y < 18 * 24 ∧ (y % 18 = 1 ∨ y % 18 = 2 ∨ y % 18 = 3) then 1 else 0 := by
  unfold g_8
  rw [f8_l]
  have : qg_l (f_8a (qs_n (g_7 h) 33)) 46 0 y = 0 := by
    rw [f8a_l, qln]
    unfold g_7
    rw [f7_l, if_neg (by omega)]
    exact (B.2 46 0 y (by decide)).2.1
  rw [this]
theorem g8_r {a : Nat} (e : a ≠ 33) : qg_r (g_8 h) a = qg_r (f_7 (f_7a (qs_n h 1)) 6) a := by
  unfold g_8
  rw [f8_r, f8a_ro e, fr_rn]
  rfl
theorem RC.init (B : B0 h) : RC 0 (g_8 h) := by
  have zi : ∀ a b k, a ≠ 0 → a ≠ 18 → (a ≠ 10 ∨ k ≠ 0) → qg_i (g_8 h) a b k = 0 := fun a b k h1 h2 h3 => by
    rw [g8_i, if_neg (fun z => h2 z.1), if_neg (by omega)]
    exact (B.2 a b k h1).1
  have zl : ∀ a b k, a ≠ 0 → a ≠ 19 → a ≠ 46 → qg_l (g_8 h) a b k = 0 := fun a b k h1 h2 h3 => by
    rw [g8_l h3, if_neg (fun z => h2 z.1)]
    exact (B.2 a b k h1).2.1
  have nn : ∀ r, 22 ≤ r → r ≤ 32 → qg_n (g_8 h) r = 0 := fun r h1 h2 => by
    unfold g_8
    rw [(f8_i 24).2]
    have e : ∀ j, 33 ≤ j → r ≠ j := fun j hj => by omega
    have : qg_n (f_8a (qs_n (g_7 h) 33)) r = qg_n (g_7 h) r := by
      simp only [f_8a, qnn, qnr, e 33 (by decide), e 34 (by decide), e 35 (by decide), e 36 (by decide), e 37 (by decide), e 38 (by decide), e 39 (by decide), e 40 (by decide), e 41 (by decide), e 42 (by decide), e 43 (by decide), e 44 (by decide), e 45 (by decide), e 46 (by decide), e 47 (by decide), e 48 (by decide), e 49 (by decide), e 50 (by decide), e 51 (by decide), e 52 (by decide), e 53 (by decide), e 54 (by decide), e 55 (by decide), e 56 (by decide), e 57 (by decide), e 58 (by decide), e 59 (by decide), e 60 (by decide), if_false]
    rw [this]
    exact g7_n B r h1
  have lk : ∀ a k, a < 46 → a ≠ 0 → a ≠ 18 → a ≠ 10 → qg_i (g_8 h) a 0 k = 0 := fun a k h1 h2 h3 h4 => zi a 0 k h2 h3 (Or.inl h4)
  refine ⟨0, 0, 0, 0, ⟨⟨by omega, by omega, by omega, by omega⟩, ⟨?_, ?_, ?_, ?_⟩, ?_, ?_, ?_, ?_⟩, ?_, ?_, ?_, ?_, ?_, ?_, ?_, ?_, ?_, ?_, ?_, ?_, ?_, ?_, ?_, ?_, ?_, ?_⟩
  · exact zi 1 0 5 (by decide) (by decide) (by omega)
  · exact zi 1 0 6 (by decide) (by decide) (by omega)
  · exact zi 1 0 7 (by decide) (by decide) (by omega)
  · exact zi 1 0 9 (by decide) (by decide) (by omega)
  · exact zi 33 0 0 (by decide) (by decide) (by omega)
  · exact zi 33 0 1 (by decide) (by decide) (by omega)
  · exact zi 33 0 10 (by decide) (by decide) (by omega)
  · exact zi 33 0 27 (by decide) (by decide) (by omega)
  · have hz : ∀ k, qg_r (qs_n (g_7 h) 33) 33 0 k = none := fun k => by
      rw [fr_rn]
      unfold g_7
      rw [f7_ro (by decide)]
      exact (B.2 33 0 k (by decide)).2.2
    have := f8a_shr hz
    intro k
    unfold g_8
    rw [f8_r]
    exact this k
  · obtain ⟨r1, r6⟩ := f7a_r (h := qs_n h 1)
    unfold SHC
    rw [g8_r (show 1 ≠ 33 by decide), g8_r (show 6 ≠ 33 by decide), g8_r (show 2 ≠ 33 by decide), g8_r (show 10 ≠ 33 by decide), g8_r (show 15 ≠ 33 by decide), g8_r (show 11 ≠ 33 by decide), g8_r (show 12 ≠ 33 by decide), g8_r (show 18 ≠ 33 by decide), f7_ro (show 1 ∉ [2, 10, 11, 12, 15, 18] by decide), f7_ro (show 6 ∉ [2, 10, 11, 12, 15, 18] by decide)]
    refine ⟨⟨r1 0 (by decide), r1 1 (by decide), r1 2 (by decide), r1 3 (by decide), r1 4 (by decide)⟩, ⟨r6 0 (by decide), r6 1 (by decide), r6 2 (by decide)⟩, fun t ht => ?_, fun p hp => ?_, fun a ha => by omega, fun a ha => by omega, fun a ha => by omega⟩
    · rw [f7_r2, if_pos ht, f7_r10 (k := 1) (by decide) (by decide), if_pos ht, f7_r10 (k := 2) (by decide) (by decide), if_pos ht, f7_r10 (k := 3) (by decide) (by decide), if_pos ht, f7_r10 (k := 4) (by decide) (by decide), if_pos ht, f7_r10 (k := 5) (by decide) (by decide), if_pos ht, f7_r15 (k := 0) (by decide), if_pos ht, f7_r15 (k := 1) (by decide), if_pos ht]
      refine ⟨rfl, rfl, rfl, rfl, rfl, rfl, rfl, rfl, fun k hk => ?_⟩
      rw [(f7_r11 hk 6).1, (f7_r11 hk 6).2, if_pos ht, if_pos ht]
      exact ⟨rfl, rfl⟩
    · rw [f7_r18 (k := 0) (by decide), if_pos (by omega), f7_r18 (k := 1) (by decide), if_pos (by omega), f7_r18 (k := 2) (by decide), if_pos (by omega)]
      exact ⟨rfl, rfl, rfl⟩
  · exact ⟨⟨nn 22 (by decide) (by decide), nn 23 (by decide) (by decide), nn 24 (by decide) (by decide), nn 25 (by decide) (by decide), nn 26 (by decide) (by decide)⟩, nn 27 (by decide) (by decide), nn 28 (by decide) (by decide), nn 29 (by decide) (by decide), nn 30 (by decide) (by decide), nn 31 (by decide) (by decide), nn 32 (by decide) (by decide)⟩
  · intro t ht
    rw [g8_i, if_neg (by omega), if_pos ⟨rfl, ht, rfl⟩]
  · exact ⟨fun a ha => by omega, fun a ha => by omega, fun a ha => by omega⟩
  · exact fun a ha => by omega
  · exact fun a ha => by omega
  · exact fun r hr p hp => ⟨fun _ => 0, fun a ha => zl 37 0 _ (by decide) (by decide) (by decide), fun _ _ => rfl, by decide⟩
  · exact ⟨fun j hj => by omega, fun j hj => by omega⟩
  · exact ⟨zi 1 0 8 (by decide) (by decide) (by omega), 0, by omega, rfl⟩
  · exact fun b hb => by omega
  · exact ⟨0, 0, ⟨zi 6 0 3 (by decide) (by decide) (by omega), by omega⟩, ⟨zi 33 0 6 (by decide) (by decide) (by omega), by omega⟩, rfl, fun e he => by cases he⟩
  · intro t ht r hr
    have p18 : ∀ k, k = 3 ∨ k = 4 ∨ k = 5 → qg_i (g_8 h) 18 (8 * t + 2 * r) k = if k = 4 then 0 else 1 := fun k hk => by
      rw [g8_i, if_pos ⟨rfl, by omega, hk⟩]
    have p19 : ∀ j, qg_l (g_8 h) 19 (8 * t + 2 * r) j = if j = 0 then 1 else 0 := fun j => by
      rw [g8_l (by decide)]
      by_cases c : j = 0
      · rw [if_pos ⟨rfl, by omega, c⟩, if_pos c]
      · rw [if_neg (fun z => c z.2.2), if_neg c]
        exact (B.2 19 _ j (by decide)).2.1
    have p20 : ∀ j, qg_i (g_8 h) 20 (8 * t + 2 * r) j = 0 := fun j => zi 20 _ j (by decide) (by decide) (by omega)
    have p21 : ∀ j, qg_i (g_8 h) 21 (8 * t + 2 * r) j = 0 := fun j => zi 21 _ j (by decide) (by decide) (by omega)
    have p46 : ∀ x, x < 18 → qg_l (g_8 h) 46 0 (18 * (4 * t + r) + x) = if x = 1 ∨ x = 2 ∨ x = 3 then 1 else 0 := fun x hx => by
      rw [g8_46 B]
      by_cases c : x = 1 ∨ x = 2 ∨ x = 3
      · rw [if_pos (by omega), if_pos c]
      · rw [if_neg (by omega), if_neg c]
    refine ⟨⟨?_, ?_, ?_⟩, fun j hj => ?_, ⟨0, by decide, ?_⟩, ?_, ?_, ?_, fun j hj => ?_⟩
    · have := p46 0 (by decide)
      rw [Nat.add_zero] at this
      rw [this, p18 4 (by decide)]
      rfl
    · rw [p46 1 (by decide), p18 5 (by decide)]
      rfl
    · rw [p46 2 (by decide), p18 3 (by decide)]
      rfl
    · rw [p19, p20, p21, show 18 * (4 * t + r) + 3 + 3 * j = 18 * (4 * t + r) + (3 + 3 * j) by omega, show 18 * (4 * t + r) + 4 + 3 * j = 18 * (4 * t + r) + (4 + 3 * j) by omega, show 18 * (4 * t + r) + 5 + 3 * j = 18 * (4 * t + r) + (5 + 3 * j) by omega, p46 _ (by omega), p46 _ (by omega), p46 _ (by omega)]
      rcases (show j = 0 ∨ j = 1 ∨ j = 2 ∨ j = 3 ∨ j = 4 by omega) with rfl | rfl | rfl | rfl | rfl <;> exact ⟨rfl, rfl, rfl⟩
    · rw [p18 3 (by decide)]
      rfl
    · rw [p18 5 (by decide)]
      decide
    · rw [p18 4 (by decide)]
      decide
    · rw [p19]
      decide
    · rw [p19, p20, p21]
      rcases (show j = 0 ∨ j = 1 ∨ j = 2 ∨ j = 3 ∨ j = 4 by omega) with rfl | rfl | rfl | rfl | rfl <;> decide
  · intro t ht
    rw [zi 10 t 7 (by decide) (by decide) (by omega), zl 10 t 8 (by decide) (by decide) (by decide), zi 10 t 9 (by decide) (by decide) (by omega), zi 47 0 t (by decide) (by decide) (by omega), zl 48 0 t (by decide) (by decide) (by decide), zi 49 0 t (by decide) (by decide) (by omega)]
    decide
  · intro t ht
    refine ⟨⟨0, by omega, zi 10 t 6 (by decide) (by decide) (by omega), zi 53 0 t (by decide) (by decide) (by omega)⟩, fun r hr => ?_, fun _ => 0, fun _ => 0, fun r hr => ?_, by decide⟩
    · rw [zl 13 t r (by decide) (by decide) (by decide), zl 14 t r (by decide) (by decide) (by decide), zl 54 0 _ (by decide) (by decide) (by decide), zl 55 0 _ (by decide) (by decide) (by decide), zi 56 0 _ (by decide) (by decide) (by omega)]
      decide
    · rw [zl 13 t r (by decide) (by decide) (by decide), zl 14 t r (by decide) (by decide) (by decide)]
      refine ⟨rfl, Nat.le_refl _, ?_, ?_⟩
      · show -((0 : Nat) : Int) ≤ (0 : Int64).toInt
        decide
      · show (0 : Int64).toInt ≤ ((0 : Nat) : Int)
        decide
  · intro t ht p hp e
    refine ⟨fun h0 => ?_, fun i hi => by omega⟩
    rw [zi 53 0 t (by decide) (by decide) (by omega)] at e
    have : (0 : Nat) = p := (nI_eq (by omega) (by omega)).mp e
    omega
  · exact fun t ht => ⟨0, by omega, ⟨zi 15 t 2 (by decide) (by decide) (by omega), zi 50 0 t (by decide) (by decide) (by omega)⟩, fun k hk => by omega, 0, by omega, rfl⟩
  · exact fun i hi => by omega
end IN
