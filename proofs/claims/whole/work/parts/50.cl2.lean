/-! A period is closed: what each place holds behind it -/
section CK
variable {h : qH}
theorem ml_i {ni lc a : Nat} {kd rs : Int32} {q m : Int64} (e : a ≠ 59) : qg_i (m_line h ni lc kd rs q m) a = qg_i h a := by
  unfold m_line
  rw [fr_ii e, fr_il, fr_il, fr_il, fr_il]
theorem ml_59 {ni lc k : Nat} {kd rs : Int32} {q m : Int64} (e : k ≠ ni) : qg_i (m_line h ni lc kd rs q m) 59 0 k = qg_i h 59 0 k := by
  unfold m_line
  rw [rd_ii, if_neg (fun z => e z.2), fr_il, fr_il, fr_il, fr_il]
theorem ml_l {ni lc a : Nat} {kd rs : Int32} {q m : Int64} (e : a ≠ 60) : qg_l (m_line h ni lc kd rs q m) a = qg_l h a := by
  unfold m_line
  rw [fr_li, fr_ll e, fr_ll e, fr_ll e, fr_ll e]
theorem ml_60 {ni lc y : Nat} {kd rs : Int32} {q m : Int64} (hl : lc < 60) (e : y < 240 * ni ∨ 240 * ni + 240 ≤ y) : qg_l (m_line h ni lc kd rs q m) 60 0 y = qg_l h 60 0 y := by
  unfold m_line
  rw [fr_li, rd_ll, if_neg (by omega), rd_ll, if_neg (by omega), rd_ll, if_neg (by omega), rd_ll, if_neg (by omega)]
/-- reference: all but lines of one invoice and the given places -/
def RF (li ll : List Nat) (h g : qH) (ni : Nat) : Prop := (qg_r g = qg_r h ∧ qg_n g = qg_n h) ∧ (∀ a, a ≠ 59 → a ∉ li → qg_i g a = qg_i h a) ∧ (∀ k, k ≠ ni → qg_i g 59 0 k = qg_i h 59 0 k) ∧ (∀ a, a ≠ 60 → a ∉ ll → qg_l g a = qg_l h a) ∧ (∀ y, y < 240 * ni ∨ 240 * ni + 240 ≤ y → qg_l g 60 0 y = qg_l h 60 0 y)
theorem RF.refl (li ll : List Nat) (h : qH) (ni : Nat) : RF li ll h h ni := ⟨⟨rfl, rfl⟩, fun _ _ _ => rfl, fun _ _ => rfl, fun _ _ _ => rfl, fun _ _ => rfl⟩
theorem RF.line {li ll : List Nat} {g : qH} {ni lc : Nat} (F : RF li ll h g ni) (kd rs : Int32) (q m : Int64) (hl : lc < 60) : RF li ll h (m_line g ni lc kd rs q m) ni := by
  obtain ⟨f1, f2, f3, f4, f5⟩ := F
  exact ⟨f1, fun a h1 h2 => by rw [ml_i h1, f2 a h1 h2], fun k hk => by rw [ml_59 hk, f3 k hk], fun a h1 h2 => by rw [ml_l h1, f4 a h1 h2], fun y hy => by rw [ml_60 hl hy, f5 y hy]⟩
theorem rf_1 {ni t : Nat} {q c : Nat → Int64} (ht : t < 6) : ∀ r, r ≤ 4 → RF [] [46] h (c_1 ni t q c h r).1 ni ∧ (c_1 ni t q c h r).2.2 ≤ r ∧ (∀ y, qg_l (c_1 ni t q c h r).1 46 0 y = if 18 * (24 + 4 * ni) ≤ y ∧ y < 18 * (24 + 4 * ni + r) then qg_l h 46 0 (y - 18 * (24 + 4 * ni) + 18 * (4 * t)) else qg_l h 46 0 y)
  | 0, _ => ⟨RF.refl _ _ _ _, Nat.le_refl _, fun y => by rw [if_neg (by omega)]; rfl⟩
  | r + 1, hr => by
    obtain ⟨f, n, e⟩ := rf_1 (ni := ni) (q := q) (c := c) ht r (by omega)
    have fc : RF [] [46] h (qs_c (c_1 ni t q c h r).1 46 0 (18 * (4 * t + r)) (18 * (24 + 4 * ni + r)) 18) ni := by
      obtain ⟨f1, f2, f3, f4, f5⟩ := f
      refine ⟨f1, f2, f3, fun a h1 h2 => ?_, f5⟩
      rw [← f4 a h1 h2]
      funext x y
      rw [qlc, if_neg (fun z => h2 (by rw [z.1]; simp))]
    have ec : ∀ y, qg_l (qs_c (c_1 ni t q c h r).1 46 0 (18 * (4 * t + r)) (18 * (24 + 4 * ni + r)) 18) 46 0 y = if 18 * (24 + 4 * ni) ≤ y ∧ y < 18 * (24 + 4 * ni + (r + 1)) then qg_l h 46 0 (y - 18 * (24 + 4 * ni) + 18 * (4 * t)) else qg_l h 46 0 y := fun y => by
      rw [qlc]
      by_cases z : 18 * (24 + 4 * ni + r) ≤ y ∧ y < 18 * (24 + 4 * ni + r) + 18
      · rw [if_pos ⟨rfl, rfl, z⟩, if_pos (by omega), e, if_neg (by omega)]
        congr 1
        omega
      · rw [if_neg (fun w => z w.2.2), e]
        by_cases w : 18 * (24 + 4 * ni) ≤ y ∧ y < 18 * (24 + 4 * ni + r)
        · rw [if_pos w, if_pos (by omega)]
        · rw [if_neg w, if_neg (by omega)]
    unfold c_1
    split
    · refine ⟨fc.line _ _ _ _ (by omega), by show _ + 1 ≤ _; omega, fun y => ?_⟩
      rw [ml_l (by decide)]
      exact ec y
    · exact ⟨fc, Nat.le_succ_of_le n, ec⟩
theorem rf_2 {ni t : Nat} {hA : qH} {b0 : qH × Int64 × Nat} (hb : b0.2.2 ≤ 4) (hW : ∀ r, r < 4 → qg_i b0.1 56 0 (4 * t + r) = qg_i hA 56 0 (4 * t + r)) : ∀ r, r ≤ 4 → RF [56] [54, 55] b0.1 (c_2 hA ni t b0 r).1 ni ∧ (c_2 hA ni t b0 r).2.2 ≤ 4 + r ∧ (∀ y, qg_i (c_2 hA ni t b0 r).1 56 0 y = if 4 * t ≤ y ∧ y < 4 * t + r then 0 else qg_i b0.1 56 0 y) ∧ (∀ y, qg_l (c_2 hA ni t b0 r).1 54 0 y = if (4 * t ≤ y ∧ y < 4 * t + r) ∧ ¬ qg_i hA 56 0 y = 0 then 0 else qg_l b0.1 54 0 y) ∧ (∀ y, qg_l (c_2 hA ni t b0 r).1 55 0 y = if (4 * t ≤ y ∧ y < 4 * t + r) ∧ ¬ qg_i hA 56 0 y = 0 then 0 else qg_l b0.1 55 0 y)
  | 0, _ => ⟨RF.refl _ _ _ _, by show b0.2.2 ≤ _; omega, fun y => by rw [if_neg (by omega)]; rfl, fun y => by rw [if_neg (by omega)]; rfl, fun y => by rw [if_neg (by omega)]; rfl⟩
  | r + 1, hr => by
    obtain ⟨f, n, e1, e2, e3⟩ := rf_2 (ni := ni) hb hW r (by omega)
    unfold c_2
    by_cases z : qg_i hA 56 0 (4 * t + r) = 0
    · rw [if_pos z]
      refine ⟨f, by omega, fun y => ?_, fun y => ?_, fun y => ?_⟩
      · rw [e1]
        by_cases w : y = 4 * t + r
        · subst w
          rw [if_neg (by omega), if_pos (by omega), hW r (by omega), z]
        · have : (4 * t ≤ y ∧ y < 4 * t + (r + 1)) ↔ (4 * t ≤ y ∧ y < 4 * t + r) := by omega
          simp only [this]
      · rw [e2]
        by_cases w : y = 4 * t + r
        · subst w
          rw [if_neg (by omega), if_neg (fun v => v.2 z)]
        · have : (4 * t ≤ y ∧ y < 4 * t + (r + 1)) ↔ (4 * t ≤ y ∧ y < 4 * t + r) := by omega
          simp only [this]
      · rw [e3]
        by_cases w : y = 4 * t + r
        · subst w
          rw [if_neg (by omega), if_neg (fun v => v.2 z)]
        · have : (4 * t ≤ y ∧ y < 4 * t + (r + 1)) ↔ (4 * t ≤ y ∧ y < 4 * t + r) := by omega
          simp only [this]
    · rw [if_neg z]
      have fl := f.line (lc := (c_2 hA ni t b0 r).2.2) 1 (nI r) (qg_l hA 54 0 (4 * t + r)) (qg_l hA 55 0 (4 * t + r)) (by omega)
      refine ⟨?_, by show _ + 1 ≤ _; omega, fun y => ?_, fun y => ?_, fun y => ?_⟩
      · obtain ⟨f1, f2, f3, f4, f5⟩ := fl
        unfold z3
        refine ⟨f1, fun a h1 h2 => ?_, fun k hk => ?_, fun a h1 h2 => ?_, fun y hy => ?_⟩
        · rw [fr_il, fr_il, fr_ii (fun v => h2 (by rw [v]; simp)), f2 a h1 h2]
        · rw [fr_il, fr_il, fr_ii (by decide), f3 k hk]
        · rw [fr_ll (fun v => h2 (by rw [v]; simp)), fr_ll (fun v => h2 (by rw [v]; simp)), fr_li, f4 a h1 h2]
        · rw [fr_ll (by decide), fr_ll (by decide), fr_li, f5 y hy]
      · show qg_i (z3 _ _) 56 0 y = _
        unfold z3
        rw [fr_il, fr_il, rd_ii, ml_i (by decide), e1]
        by_cases w : y = 4 * t + r
        · rw [if_pos ⟨rfl, w⟩, if_pos (by omega)]
        · rw [if_neg (fun v => w v.2)]
          have : (4 * t ≤ y ∧ y < 4 * t + (r + 1)) ↔ (4 * t ≤ y ∧ y < 4 * t + r) := by omega
          simp only [this]
      · show qg_l (z3 _ _) 54 0 y = _
        unfold z3
        rw [fr_ll (by decide), rd_ll, fr_li, ml_l (by decide), e2]
        by_cases w : y = 4 * t + r
        · subst w
          rw [if_pos ⟨rfl, rfl⟩, if_pos ⟨by omega, z⟩]
        · rw [if_neg (fun v => w v.2)]
          have : (4 * t ≤ y ∧ y < 4 * t + (r + 1)) ↔ (4 * t ≤ y ∧ y < 4 * t + r) := by omega
          simp only [this]
      · show qg_l (z3 _ _) 55 0 y = _
        unfold z3
        rw [rd_ll, fr_ll (by decide), fr_li, ml_l (by decide), e3]
        by_cases w : y = 4 * t + r
        · subst w
          rw [if_pos ⟨rfl, rfl⟩, if_pos ⟨by omega, z⟩]
        · rw [if_neg (fun v => w v.2)]
          have : (4 * t ≤ y ∧ y < 4 * t + (r + 1)) ↔ (4 * t ≤ y ∧ y < 4 * t + r) := by omega
          simp only [this]
theorem rf_3 {ni t : Nat} {hA g : qH} {b : qH × Int64 × Nat} (F : RF [] [] g b.1 ni) (hb : b.2.2 < 60) : RF [] [] g (c_3 hA ni t b).1 ni ∧ (c_3 hA ni t b).2.2 ≤ b.2.2 + 1 := by
  unfold c_3
  split
  · exact ⟨F, by omega⟩
  · exact ⟨F.line _ _ _ _ hb, Nat.le_refl _⟩
theorem rf_4 {ni t : Nat} {hA g : qH} {b : qH × Int64 × Nat} (F : RF [] [] g b.1 ni) (hb : b.2.2 < 60) : RF [] [] g (c_4 hA ni t b).1 ni ∧ (c_4 hA ni t b).2.2 ≤ b.2.2 + 1 := by
  unfold c_4
  split
  · exact ⟨F.line _ _ _ _ hb, Nat.le_refl _⟩
  · exact ⟨F, by omega⟩
theorem rf_5 {ni t : Nat} {hA g : qH} {b : qH × Int64 × Nat} (F : RF [] [] g b.1 ni) (hb : b.2.2 < 60) : RF [] [] g (c_5 hA ni t b).1 ni ∧ (c_5 hA ni t b).2.2 ≤ b.2.2 + 1 := by
  unfold c_5
  split
  · exact ⟨F, by omega⟩
  · exact ⟨F.line _ _ _ _ hb, Nat.le_refl _⟩
theorem rf_u {t nc ni : Nat} {p : Int32} (hnc : nc ≤ 40) : ∀ (f : Nat) (g : qH) (s : Int64) (lc : Nat), lc + f ≤ 60 → ∀ g0, RF [] [51] g0 g ni → (∀ y, y < 40 * t ∨ 40 * t + 40 ≤ y → qg_l g 51 0 y = qg_l g0 51 0 y) → RF [] [51] g0 (ucr t nc ni p f g s lc) ni ∧ (∀ y, y < 40 * t ∨ 40 * t + 40 ≤ y → qg_l (ucr t nc ni p f g s lc) 51 0 y = qg_l g0 51 0 y)
  | 0, g, s, lc, _, g0, F, E => ⟨F, E⟩
  | f + 1, g, s, lc, hl, g0, F, E => by
    unfold ucr
    split
    · cases hb : bst (m_cl g t) (m_cf g t) p nc with
      | none => exact ⟨F, E⟩
      | some b =>
        dsimp only
        have hb1 := (bst_some hb).1
        refine rf_u hnc f _ _ _ (by omega) g0 ?_ (fun y hy => ?_)
        · obtain ⟨f1, f2, f3, f4, f5⟩ := F.line (lc := lc) 5 (-1) 0 (-(m_min s (m_cf g t b))) (by omega)
          unfold uc1
          refine ⟨f1, f2, f3, fun a h1 h2 => ?_, fun y hy => ?_⟩
          · rw [fr_ll (fun v => h2 (by rw [v]; simp)), f4 a h1 h2]
          · rw [fr_ll (by decide), f5 y hy]
        · unfold uc1
          rw [rd_ll, if_neg (by omega), ml_l (by decide)]
          exact E y hy
    · exact ⟨F, E⟩
/-- the other side: all but lines of one invoice -/
def CF (h g : qH) (i : Nat) : Prop := (qg_r g = qg_r h ∧ qg_n g = qg_n h) ∧ (∀ a b k, (a ≠ 28 ∧ a ≠ 29 ∧ a ≠ 30) ∨ b ≠ i ∨ (a = 28 ∧ k ≠ 6) → qg_i g a b k = qg_i h a b k) ∧ (∀ a b k, (a ≠ 28 ∧ a ≠ 31 ∧ a ≠ 32) ∨ b ≠ i → qg_l g a b k = qg_l h a b k)
theorem CF.line {g : qH} {i lc : Nat} (F : CF h g i) (kd rs : Int32) (q m : Int64) : CF h (f_line g i lc kd rs q m) i := by
  obtain ⟨f1, f2, f3⟩ := F
  refine ⟨f1, fun a b k hk => ?_, fun a b k hk => ?_⟩
  · rw [← f2 a b k hk]
    unfold f_line
    rw [fr_il, qii, if_neg (by omega), fr_il, fr_il, qii, if_neg (by omega), qii, if_neg (by omega)]
  · rw [← f3 a b k hk]
    unfold f_line
    rw [qll, if_neg (by omega), fr_li, qll, if_neg (by omega), qll, if_neg (by omega), fr_li, fr_li]
theorem cf_1 {h1 : qH} {NA t i p : Nat} {kr : Nat → Nat} {a0 : qH × Nat} (F : CF h a0.1 i) : ∀ r, CF h (f_b1 h1 NA t i p kr a0 r).1 i
  | 0 => F
  | r + 1 => by
    unfold f_b1
    split
    · exact (cf_1 F r).line _ _ _ _
    · exact cf_1 F r
theorem cf_2 {h1 : qH} {t i : Nat} {a0 : qH × Nat} (F : CF h a0.1 i) : ∀ r, CF h (f_b2 h1 t i a0 r).1 i
  | 0 => F
  | r + 1 => by
    unfold f_b2
    split
    · exact (cf_2 F r).line _ _ _ _
    · exact cf_2 F r
theorem cf_t {h1 : qH} {i : Nat} {a0 : qH × Nat} {kd : Int32} {m : Int64} (F : CF h a0.1 i) : CF h (f_t1 h1 i kd m a0).1 i := by
  unfold f_t1
  split
  · exact F
  · exact F.line _ _ _ _
/-- behind the credits too -/
def CU (h g : qH) (i t : Nat) : Prop := (qg_r g = qg_r h ∧ qg_n g = qg_n h) ∧ (∀ a b k, (a ≠ 28 ∧ a ≠ 29 ∧ a ≠ 30) ∨ b ≠ i ∨ (a = 28 ∧ k ≠ 6) → qg_i g a b k = qg_i h a b k) ∧ (∀ a b k, (a ≠ 28 ∧ a ≠ 31 ∧ a ≠ 32) ∨ b ≠ i → (a ≠ 16 ∨ b ≠ t) → qg_l g a b k = qg_l h a b k)
theorem CF.cu {g : qH} {i t : Nat} (F : CF h g i) : CU h g i t := ⟨F.1, F.2.1, fun a b k hk _ => F.2.2 a b k hk⟩
theorem CU.line {g : qH} {i t lc : Nat} (F : CU h g i t) (kd rs : Int32) (q m : Int64) : CU h (f_line g i lc kd rs q m) i t := by
  obtain ⟨f1, f2, f3⟩ := F
  refine ⟨f1, fun a b k hk => ?_, fun a b k hk h2 => ?_⟩
  · rw [← f2 a b k hk]
    unfold f_line
    rw [fr_il, qii, if_neg (by omega), fr_il, fr_il, qii, if_neg (by omega), qii, if_neg (by omega)]
  · rw [← f3 a b k hk h2]
    unfold f_line
    rw [qll, if_neg (by omega), fr_li, qll, if_neg (by omega), qll, if_neg (by omega), fr_li, fr_li]
theorem CU.at16 {g : qH} {i t b : Nat} {v : Int64} (F : CU h g i t) : CU h (qs_l g 16 t b v) i t := by
  obtain ⟨f1, f2, f3⟩ := F
  refine ⟨f1, f2, fun a b' k hk h2 => ?_⟩
  rw [qll, if_neg (by omega)]
  exact f3 a b' k hk h2
theorem cu_u {t nc i : Nat} : ∀ (f : Nat) (g : qH) (lc : Nat), CU h g i t → CU h (f_ucr t nc i f g lc) i t
  | 0, g, lc, F => F
  | f + 1, g, lc, F => by
    unfold f_ucr
    split
    · split
      · exact F
      · exact cu_u f _ _ (F.at16.line _ _ _ _)
    · exact F
/-- prices: the same rows -/
def PFE (g : qH) (x : Nat) (h : qH) (y : Nat) : Prop := (∀ k, k = 3 ∨ k = 4 ∨ k = 5 → qg_i g 18 x k = qg_i h 18 y k) ∧ ∀ j, j < 5 → qg_l g 19 x j = qg_l h 19 y j ∧ qg_i g 20 x j = qg_i h 20 y j ∧ qg_i g 21 x j = qg_i h 21 y j
theorem PFE.trans {a b c : qH} {x y z : Nat} (p : PFE a x b y) (q : PFE b y c z) : PFE a x c z := ⟨fun k hk => (p.1 k hk).trans (q.1 k hk), fun j hj => ⟨(p.2 j hj).1.trans (q.2 j hj).1, (p.2 j hj).2.1.trans (q.2 j hj).2.1, (p.2 j hj).2.2.trans (q.2 j hj).2.2⟩⟩
theorem PFE.of {g : qH} {x : Nat} (e1 : qg_i g 18 = qg_i h 18) (e2 : qg_l g 19 = qg_l h 19) (e3 : qg_i g 20 = qg_i h 20) (e4 : qg_i g 21 = qg_i h 21) : PFE g x h x := by
  unfold PFE
  rw [e1, e2, e3, e4]
  exact ⟨fun _ _ => rfl, fun _ _ => ⟨rfl, rfl, rfl⟩⟩
theorem cp5_all {p q : Nat} : ∀ n x j, qg_l (cp5 h p q n) 19 x j = (if x = p ∧ j < n then qg_l h 19 q j else qg_l h 19 x j) ∧ qg_i (cp5 h p q n) 20 x j = (if x = p ∧ j < n then qg_i h 20 q j else qg_i h 20 x j) ∧ qg_i (cp5 h p q n) 21 x j = (if x = p ∧ j < n then qg_i h 21 q j else qg_i h 21 x j)
  | 0, x, j => by
    rw [if_neg (by omega), if_neg (by omega), if_neg (by omega)]
    exact ⟨rfl, rfl, rfl⟩
  | n + 1, x, j => by
    obtain ⟨a1, a2, a3⟩ := cp5_all n x j
    unfold cp5
    rw [fr_li, fr_li, rd_ll, a1, fr_ii (show 20 ≠ 21 by decide), rd_ii, fr_il, a2, rd_ii, fr_ii (show 21 ≠ 20 by decide), fr_il, a3]
    by_cases w : x = p ∧ j = n
    · rw [if_pos w, if_pos w, if_pos w, if_pos (by omega), if_pos (by omega), if_pos (by omega), w.2]
      exact ⟨rfl, rfl, rfl⟩
    · rw [if_neg w, if_neg w, if_neg w]
      have : (x = p ∧ j < n + 1) ↔ (x = p ∧ j < n) := by omega
      simp only [this]
      exact ⟨trivial, trivial, trivial⟩
theorem copy_pf {p q x : Nat} : PFE (f_copy h p q) x h (if x = p then q else x) := by
  have c18 : qg_i (cp5 h p q 5) 18 = qg_i h 18 := by
    funext x y
    exact (cp5_fr2 5).1 18 x y (by decide) (by decide)
  refine ⟨fun k hk => ?_, fun j hj => ?_⟩
  · unfold f_copy
    rw [rd_ii, rd_ii, rd_ii, c18]
    by_cases w : x = p
    · rw [if_pos w]
      rcases hk with rfl | rfl | rfl <;> simp [w]
    · rw [if_neg w, if_neg (by omega), if_neg (by omega), if_neg (by omega)]
  · obtain ⟨a1, a2, a3⟩ := cp5_all (h := h) (p := p) (q := q) 5 x j
    unfold f_copy
    rw [fr_li, fr_li, fr_li, fr_ii (show 20 ≠ 18 by decide), fr_ii (show 20 ≠ 18 by decide), fr_ii (show 20 ≠ 18 by decide), fr_ii (show 21 ≠ 18 by decide), fr_ii (show 21 ≠ 18 by decide), fr_ii (show 21 ≠ 18 by decide), a1, a2, a3]
    by_cases w : x = p
    · rw [if_pos w, if_pos ⟨w, hj⟩, if_pos ⟨w, hj⟩, if_pos ⟨w, hj⟩]
      exact ⟨rfl, rfl, rfl⟩
    · rw [if_neg w, if_neg (fun z => w z.1), if_neg (fun z => w z.1), if_neg (fun z => w z.1)]
      exact ⟨rfl, rfl, rfl⟩
theorem e1_pf {t : Nat} : ∀ R x, PFE (f_e1 h t R) x h (if x % 2 = 1 ∧ 8 * t < x ∧ x < 8 * t + 2 * R then x - 1 else x)
  | 0, x => by
    rw [if_neg (by omega)]
    exact PFE.of rfl rfl rfl rfl
  | R + 1, x => by
    have mid : ∀ y, PFE (qs_l (qs_l (f_e1 h t R) 13 t R 0) 14 t R 0) y (f_e1 h t R) y := fun y => PFE.of rfl (by rw [fr_ll (by decide), fr_ll (by decide)]) rfl rfl
    have cp := copy_pf (h := qs_l (qs_l (f_e1 h t R) 13 t R 0) 14 t R 0) (p := 8 * t + 2 * R + 1) (q := 8 * t + 2 * R) (x := x)
    unfold f_e1
    by_cases w : x = 8 * t + 2 * R + 1
    · rw [if_pos w] at cp
      have := (cp.trans (mid _)).trans (e1_pf R (8 * t + 2 * R))
      rw [if_neg (by omega)] at this
      rw [if_pos (by omega), show x - 1 = 8 * t + 2 * R by omega]
      exact this
    · rw [if_neg w] at cp
      have := (cp.trans (mid _)).trans (e1_pf R x)
      have e : (x % 2 = 1 ∧ 8 * t < x ∧ x < 8 * t + 2 * (R + 1)) ↔ (x % 2 = 1 ∧ 8 * t < x ∧ x < 8 * t + 2 * R) := by omega
      simp only [e]
      exact this
theorem copy_l {p q a : Nat} (e : a ≠ 19) : qg_l (f_copy h p q) a = qg_l h a := by
  funext x y
  unfold f_copy
  rw [fr_li, fr_li, fr_li]
  exact (cp5_fr2 5).2.1 a x y e
theorem e1_13 {t : Nat} : ∀ R x y, qg_l (f_e1 h t R) 13 x y = (if x = t ∧ y < R then 0 else qg_l h 13 x y) ∧ qg_l (f_e1 h t R) 14 x y = (if x = t ∧ y < R then 0 else qg_l h 14 x y)
  | 0, x, y => by
    rw [if_neg (by omega), if_neg (by omega)]
    exact ⟨rfl, rfl⟩
  | R + 1, x, y => by
    obtain ⟨a1, a2⟩ := e1_13 R x y
    unfold f_e1
    rw [copy_l (show 13 ≠ 19 by decide), copy_l (show 14 ≠ 19 by decide), fr_ll (show 13 ≠ 14 by decide), rd_ll, rd_ll, fr_ll (show 14 ≠ 13 by decide), a1, a2]
    by_cases w : x = t ∧ y = R
    · rw [if_pos w, if_pos w, if_pos (by omega), if_pos (by omega)]
      exact ⟨rfl, rfl⟩
    · rw [if_neg w, if_neg w]
      have : (x = t ∧ y < R + 1) ↔ (x = t ∧ y < R) := by omega
      simp only [this]
      exact ⟨trivial, trivial⟩
theorem PR.mv {g : qH} {p q p' q' : Nat} (P : PR h p q) (e : ∀ x, x < 18 → qg_l g 46 0 (p' + x) = qg_l h 46 0 (p + x)) (F : PFE g q' h q) : PR g p' q' := by
  obtain ⟨⟨a1, a2, a3⟩, a4, ⟨b1, b2, b3, b4, b5⟩⟩ := P
  obtain ⟨f1, f2⟩ := F
  have f3 := f1 3 (by simp)
  have f4 := f1 4 (by simp)
  have f5 := f1 5 (by simp)
  refine ⟨⟨?_, ?_, ?_⟩, fun j hj => ?_, ?_, ?_, ?_, ?_, fun j hj => ?_⟩
  · rw [f4, ← a1]
    exact e 0 (by omega)
  · rw [f5, ← a2]
    exact e 1 (by omega)
  · rw [f3, ← a3]
    exact e 2 (by omega)
  · obtain ⟨g1, g2, g3⟩ := f2 j hj
    obtain ⟨c1, c2, c3⟩ := a4 j hj
    rw [g1, g2, g3, ← c1, ← c2, ← c3]
    refine ⟨?_, ?_, ?_⟩
    · rw [show p' + 3 + 3 * j = p' + (3 + 3 * j) by omega, show p + 3 + 3 * j = p + (3 + 3 * j) by omega]
      exact e _ (by omega)
    · rw [show p' + 4 + 3 * j = p' + (4 + 3 * j) by omega, show p + 4 + 3 * j = p + (4 + 3 * j) by omega]
      exact e _ (by omega)
    · rw [show p' + 5 + 3 * j = p' + (5 + 3 * j) by omega, show p + 5 + 3 * j = p + (5 + 3 * j) by omega]
      exact e _ (by omega)
  · rw [f3]
    exact b1
  · rw [f5]
    exact b2
  · rw [f4]
    exact b3
  · rw [(f2 0 (by omega)).1]
    exact b4
  · obtain ⟨g1, g2, g3⟩ := f2 j hj
    rw [g1, g2, g3]
    exact b5 j hj
end CK
