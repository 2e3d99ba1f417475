/-! A period is closed: both heaps read -/
section CL
variable {h : qH} {NA NI t p nc : Nat} {kr : Nat → Nat}
theorem h1_i {a b k : Nat} : qg_i (f_h1 h NI t p) a b k = if a = 28 ∧ b = NI ∧ k = 1 then nI p else if a = 28 ∧ b = NI ∧ k = 0 then nI t else qg_i h a b k := rfl
theorem h1_l : qg_l (f_h1 h NI t p) = qg_l h := rfl
theorem h1_ia {a : Nat} (e : a ≠ 28) : qg_i (f_h1 h NI t p) a = qg_i h a := by
  funext x y
  rw [h1_i, if_neg (fun z => e z.1), if_neg (fun z => e z.1)]
theorem h1_r {a : Nat} (e : a ≠ 28) : qg_r (f_h1 h NI t p) a = qg_r h a := by
  funext x y
  simp [f_h1, f_3, qri, qrr, qrn, e]
theorem h1_r28 {i k : Nat} (e : i ≠ NI) : qg_r (f_h1 h NI t p) 28 i k = qg_r h 28 i k := by
  simp [f_h1, f_3, qri, qrr, qrn, e]
theorem h1_n {k : Nat} : qg_n (f_h1 h NI t p) k = if 28 ≤ k ∧ k ≤ 32 then qg_n h k + 1 else qg_n h k := by
  by_cases e1 : k = 28
  · subst e1; rfl
  · by_cases e2 : k = 29
    · subst e2; rfl
    · by_cases e3 : k = 30
      · subst e3; rfl
      · by_cases e4 : k = 31
        · subst e4; rfl
        · by_cases e5 : k = 32
          · subst e5; rfl
          · rw [if_neg (by omega)]
            simp [f_h1, f_3, qg_n, qs_n, qs_r, qs_i, e1, e2, e3, e4, e5]
theorem fr_lr {a b k : Nat} {v : Option (Nat × Nat)} : qg_l (qs_r h a b k v) = qg_l h := rfl
theorem fr_nr {a b k : Nat} {v : Option (Nat × Nat)} : qg_n (qs_r h a b k v) = qg_n h := rfl
theorem fr_ni {a b k : Nat} {v : Int32} : qg_n (qs_i h a b k v) = qg_n h := rfl
theorem end_10 {g : qH} {x k : Nat} : qg_i (f_end g t nc p) 10 x k = if x = t ∧ k = 6 then nI (p + 1) else qg_i g 10 x k := by
  unfold f_end
  rw [rd_ii]
  show (if _ then _ else qg_i (f_e1 g t 4) 10 x k) = _
  rw [(e1_fr (h := g) (t := t) 4).1 10 x k (by decide) (by decide) (by decide)]
theorem end_l {g : qH} {a x k : Nat} (e : a ∉ [13, 14, 19]) : qg_l (f_end g t nc p) a x k = if a = 16 ∧ x = t ∧ k < nc ∧ qg_i g 17 t k ≤ nI p then 0 else qg_l g a x k := by
  simp only [List.mem_cons, List.not_mem_nil, or_false, not_or] at e
  have e0 : qg_l (f_end g t nc p) a x k = if a = 16 ∧ x = t ∧ k < nc ∧ qg_i (f_e1 g t 4) 17 t k ≤ nI p then 0 else qg_l (f_e1 g t 4) a x k := by
    unfold f_end
    generalize f_e1 g t 4 = X
    rfl
  rw [e0, (e1_fr (h := g) (t := t) 4).1 17 t k (by decide) (by decide) (by decide), (e1_fr (h := g) (t := t) 4).2.1 a x k e.1 e.2.1 e.2.2]
theorem end_13 {g : qH} {a x k : Nat} (e : a ≠ 16) : qg_l (f_end g t nc p) a x k = qg_l (f_e1 g t 4) a x k := by
  unfold f_end
  generalize f_e1 g t 4 = X
  rw [fr_li]
  show (if a = 16 ∧ x = t ∧ k < nc ∧ qg_i X 17 t k ≤ nI p then 0 else qg_l X a x k) = _
  rw [if_neg (fun z => e z.1)]
theorem end_pf {g : qH} {x : Nat} : PFE (f_end g t nc p) x (f_e1 g t 4) x := by
  unfold f_end
  generalize f_e1 g t 4 = X
  refine PFE.of ?_ ?_ ?_ ?_
  · rw [fr_ii (by decide)]
    rfl
  · rw [fr_li]
    funext y z
    show (if 19 = 16 ∧ y = t ∧ z < nc ∧ qg_i X 17 t z ≤ nI p then 0 else qg_l X 19 y z) = _
    rw [if_neg (by omega)]
  · rw [fr_ii (by decide)]
    rfl
  · rw [fr_ii (by decide)]
    rfl
/-- all that the one side's heap holds then, U being the heap behind the credits -/
def CCF (h C U : qH) (NI t p nc : Nat) : Prop := ((∀ a, a ∉ [5, 28] → qg_r C a = qg_r h a) ∧ (∀ i, qg_r C 5 0 i = if i = NI then some (28, NI) else qg_r h 5 0 i) ∧ (∀ i k, i ≠ NI → qg_r C 28 i k = qg_r h 28 i k) ∧ IFs C NI ∧ ∀ k, qg_n C k = if 28 ≤ k ∧ k ≤ 32 then qg_n h k + 1 else qg_n h k) ∧
  ((∀ a b k, a ∉ [1, 10, 18, 20, 21] → (a ≠ 28 ∧ a ≠ 29 ∧ a ≠ 30) ∨ b ≠ NI → qg_i C a b k = qg_i h a b k) ∧ (∀ k, qg_i C 1 0 k = if k = 9 then nI (NI + 1) else qg_i h 1 0 k) ∧ (∀ x k, qg_i C 10 x k = if x = t ∧ k = 6 then nI (p + 1) else qg_i h 10 x k) ∧ qg_i C 28 NI 0 = nI t ∧ qg_i C 28 NI 1 = nI p) ∧
  ((∀ a b k, a ∉ [13, 14, 16, 19] → (a ≠ 28 ∧ a ≠ 31 ∧ a ≠ 32) ∨ b ≠ NI → qg_l C a b k = qg_l h a b k) ∧ (∀ x k, qg_l C 16 x k = if x = t ∧ k < nc ∧ qg_i h 17 t k ≤ nI p then 0 else qg_l U 16 x k) ∧ (∀ x k, x ≠ t → qg_l U 16 x k = qg_l h 16 x k) ∧ (∀ x k, qg_l C 13 x k = (if x = t ∧ k < 4 then 0 else qg_l h 13 x k) ∧ qg_l C 14 x k = (if x = t ∧ k < 4 then 0 else qg_l h 14 x k))) ∧
  (∀ x, PFE C x h (if x % 2 = 1 ∧ 8 * t < x ∧ x < 8 * t + 8 then x - 1 else x)) ∧ (∀ ls, LC U NI ls → LC C NI ls)
theorem ccf {U : qH} (F : CU (f_h1 h NI t p) U NI t) : CCF h (qs_i (qs_r (f_end U t nc p) 5 0 NI (some (28, NI))) 1 0 9 (nI (NI + 1))) U NI t p nc := by
  refine ⟨⟨fun a e => ?_, fun i => ?_, fun i k e => ?_, ?_, fun k => ?_⟩, ⟨fun a b k e e2 => ?_, fun k => ?_, fun x k => ?_, ?_, ?_⟩, ⟨fun a b k e e2 => ?_, fun x k => ?_, fun x k e => ?_, fun x k => ⟨?_, ?_⟩⟩, fun x => ?_, fun ls C => ?_⟩
  · simp only [List.mem_cons, List.not_mem_nil, or_false, not_or] at e
    rw [fr_ri, fr_rr e.1, f_end_r, F.1.1, h1_r e.2]
  · rw [fr_ri, qrr, f_end_r, F.1.1, h1_r (by decide)]
    simp
  · rw [fr_ri, fr_rr (by decide), f_end_r, F.1.1, h1_r28 e]
  · unfold IFs
    rw [fr_ri, fr_rr (by decide), f_end_r, F.1.1]
    simp [f_h1, f_3, qri, qrr, qrn]
  · rw [fr_ni, fr_nr, f_end_n, F.1.2, h1_n]
  · simp only [List.mem_cons, List.not_mem_nil, or_false, not_or] at e
    rw [fr_ii e.1, fr_ir, f_end_i e.2.1 e.2.2.1 e.2.2.2.1 e.2.2.2.2, F.2.1 a b k (by omega), h1_i, if_neg (by omega), if_neg (by omega)]
  · rw [rd_ii, fr_ir, f_end_i (by decide) (by decide) (by decide) (by decide), F.2.1 1 0 k (by omega), h1_i, if_neg (show ¬ (1 = 28 ∧ 0 = NI ∧ k = 1) by omega), if_neg (show ¬ (1 = 28 ∧ 0 = NI ∧ k = 0) by omega)]
    simp
  · rw [fr_ii (by decide), fr_ir, end_10, F.2.1 10 x k (by omega), h1_i, if_neg (show ¬ (10 = 28 ∧ x = NI ∧ k = 1) by omega), if_neg (show ¬ (10 = 28 ∧ x = NI ∧ k = 0) by omega)]
  · rw [fr_ii (by decide), fr_ir, f_end_i (by decide) (by decide) (by decide) (by decide), F.2.1 28 NI 0 (by omega), h1_i]
    simp
  · rw [fr_ii (by decide), fr_ir, f_end_i (by decide) (by decide) (by decide) (by decide), F.2.1 28 NI 1 (by omega), h1_i]
    simp
  · simp only [List.mem_cons, List.not_mem_nil, or_false, not_or] at e
    rw [fr_li, fr_lr, end_l (by simp only [List.mem_cons, List.not_mem_nil, or_false, not_or]; omega), if_neg (by omega), F.2.2 a b k e2 (by omega), h1_l]
  · rw [fr_li, fr_lr, end_l (by decide), F.2.1 17 t k (by omega), h1_ia (by decide)]
    simp
  · rw [F.2.2 16 x k (by omega) (by omega), h1_l]
  · rw [fr_li, fr_lr, end_13 (by decide), (e1_13 4 x k).1, F.2.2 13 x k (by omega) (by omega), h1_l]
  · rw [fr_li, fr_lr, end_13 (by decide), (e1_13 4 x k).2, F.2.2 14 x k (by omega) (by omega), h1_l]
  · have a := e1_pf (h := U) (t := t) 4 x
    have b : PFE (qs_i (qs_r (f_end U t nc p) 5 0 NI (some (28, NI))) 1 0 9 (nI (NI + 1))) x (f_end U t nc p) x := by
      refine PFE.of ?_ ?_ ?_ ?_
      · rw [fr_ii (by decide), fr_ir]
      · rw [fr_li, fr_lr]
      · rw [fr_ii (by decide), fr_ir]
      · rw [fr_ii (by decide), fr_ir]
    have c : ∀ y, PFE U y h y := fun y => by
      refine PFE.of ?_ ?_ ?_ ?_
      · funext u v
        rw [F.2.1 18 u v (by omega), h1_ia (by decide)]
      · funext u v
        rw [F.2.2 19 u v (by omega) (by omega), h1_l]
      · funext u v
        rw [F.2.1 20 u v (by omega), h1_ia (by decide)]
      · funext u v
        rw [F.2.1 21 u v (by omega), h1_ia (by decide)]
    exact ((b.trans end_pf).trans a).trans (c _)
  · obtain ⟨c1, c2, c3⟩ := C
    have e1 : ∀ a b k, a = 28 ∨ a = 29 ∨ a = 30 → qg_i (qs_i (qs_r (f_end U t nc p) 5 0 NI (some (28, NI))) 1 0 9 (nI (NI + 1))) a b k = qg_i U a b k := fun a b k ha => by
      rw [fr_ii (by omega), fr_ir, f_end_i (by omega) (by omega) (by omega) (by omega)]
    have e2 : ∀ a b k, a = 28 ∨ a = 31 ∨ a = 32 → qg_l (qs_i (qs_r (f_end U t nc p) 5 0 NI (some (28, NI))) 1 0 9 (nI (NI + 1))) a b k = qg_l U a b k := fun a b k ha => by
      rw [fr_li, fr_lr, end_l (by simp only [List.mem_cons, List.not_mem_nil, or_false, not_or]; omega), if_neg (by omega)]
    refine ⟨?_, fun k x hx => ?_, ?_⟩
    · rw [e1 28 NI 6 (by simp)]
      exact c1
    · rw [e1 29 NI k (by simp), e1 30 NI k (by simp), e2 31 NI k (by simp), e2 32 NI k (by simp)]
      exact c2 k x hx
    · rw [e2 28 NI 7 (by simp)]
      exact c3
theorem g3_cf : CF (f_h1 h NI t p) (f_G3 h NA NI t p kr).1 NI := by
  unfold f_G3 f_T3 f_T2 f_T1 f_G2 f_G1
  exact cf_t (cf_t (cf_t (cf_2 (cf_1 ⟨⟨rfl, rfl⟩, fun _ _ _ _ => rfl, fun _ _ _ _ => rfl⟩ 4) 4)))
theorem ccf_close : CCF h (f_close h NA NI t p nc kr) (f_ucr t nc NI 10 (f_G3 h NA NI t p kr).1 (f_G3 h NA NI t p kr).2) NI t p nc := ccf (cu_u 10 _ _ g3_cf.cu)
end CL
