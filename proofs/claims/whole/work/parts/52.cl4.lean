/-! A period is closed: the reference's heap read -/
section CM
variable {h : qH} {NA NI t p nc : Nat} {kr : Nat → Nat}
theorem cA_i {a b k : Nat} : qg_i (c_A h NI t p) a b k = if a = 59 ∧ b = 0 ∧ k = NI then 0 else if a = 58 ∧ b = 0 ∧ k = NI then nI p else if a = 57 ∧ b = 0 ∧ k = NI then nI t else qg_i h a b k := rfl
theorem cA_l : qg_l (c_A h NI t p) = qg_l h := rfl
theorem cA_r : qg_r (c_A h NI t p) = qg_r h ∧ qg_n (c_A h NI t p) = qg_n h := ⟨rfl, rfl⟩
theorem cA_ia {a : Nat} (e : a ∉ [57, 58, 59]) : qg_i (c_A h NI t p) a = qg_i h a := by
  simp only [List.mem_cons, List.not_mem_nil, or_false, not_or] at e
  funext x y
  rw [cA_i, if_neg (by omega), if_neg (by omega), if_neg (by omega)]
def MCF (h G : qH) (NI t p : Nat) : Prop := (qg_r G = qg_r h ∧ qg_n G = qg_n h) ∧
  ((∀ a, a ∉ [33, 53, 56, 57, 58, 59] → qg_i G a = qg_i h a) ∧ (∀ k, qg_i G 33 0 k = if k = 27 then nI (NI + 1) else qg_i h 33 0 k) ∧ (∀ x, qg_i G 53 0 x = if x = t then nI (p + 1) else qg_i h 53 0 x) ∧ (∀ x, qg_i G 57 0 x = (if x = NI then nI t else qg_i h 57 0 x) ∧ qg_i G 58 0 x = (if x = NI then nI p else qg_i h 58 0 x)) ∧ (∀ x, x ≠ NI → qg_i G 59 0 x = qg_i h 59 0 x) ∧ (∀ y, qg_i G 56 0 y = if 4 * t ≤ y ∧ y < 4 * t + 4 then 0 else qg_i h 56 0 y)) ∧
  ((∀ a, a ∉ [46, 51, 54, 55, 60] → qg_l G a = qg_l h a) ∧ (∀ y, qg_l G 46 0 y = if 18 * (24 + 4 * NI) ≤ y ∧ y < 18 * (24 + 4 * NI + 4) then qg_l h 46 0 (y - 18 * (24 + 4 * NI) + 18 * (4 * t)) else qg_l h 46 0 y) ∧ (∀ y, qg_l G 54 0 y = if (4 * t ≤ y ∧ y < 4 * t + 4) ∧ ¬ qg_i h 56 0 y = 0 then 0 else qg_l h 54 0 y) ∧ (∀ y, qg_l G 55 0 y = if (4 * t ≤ y ∧ y < 4 * t + 4) ∧ ¬ qg_i h 56 0 y = 0 then 0 else qg_l h 55 0 y) ∧ (∀ y, y < 40 * t ∨ 40 * t + 40 ≤ y → qg_l G 51 0 y = qg_l h 51 0 y) ∧ (∀ y, y < 240 * NI ∨ 240 * NI + 240 ≤ y → qg_l G 60 0 y = qg_l h 60 0 y))
theorem mcf {S1 S2 SU : qH} (F1 : RF [] [46] (c_A h NI t p) S1 NI) (E1 : ∀ y, qg_l S1 46 0 y = if 18 * (24 + 4 * NI) ≤ y ∧ y < 18 * (24 + 4 * NI + 4) then qg_l (c_A h NI t p) 46 0 (y - 18 * (24 + 4 * NI) + 18 * (4 * t)) else qg_l (c_A h NI t p) 46 0 y) (F2 : RF [56] [54, 55] S1 S2 NI) (E56 : ∀ y, qg_i S2 56 0 y = if 4 * t ≤ y ∧ y < 4 * t + 4 then 0 else qg_i S1 56 0 y) (E54 : ∀ y, qg_l S2 54 0 y = if (4 * t ≤ y ∧ y < 4 * t + 4) ∧ ¬ qg_i (c_A h NI t p) 56 0 y = 0 then 0 else qg_l S1 54 0 y) (E55 : ∀ y, qg_l S2 55 0 y = if (4 * t ≤ y ∧ y < 4 * t + 4) ∧ ¬ qg_i (c_A h NI t p) 56 0 y = 0 then 0 else qg_l S1 55 0 y) (FU : RF [] [51] S2 SU NI) (E51 : ∀ y, y < 40 * t ∨ 40 * t + 40 ≤ y → qg_l SU 51 0 y = qg_l S2 51 0 y) : MCF h (qs_i (qs_i SU 53 0 t (nI (p + 1))) 33 0 27 (nI (NI + 1))) NI t p := by
  have si : ∀ a, a ≠ 59 → a ≠ 56 → qg_i SU a = qg_i (c_A h NI t p) a := fun a e e2 => by
    rw [FU.2.1 a e (by simp), F2.2.1 a e (by simpa using e2), F1.2.1 a e (by simp)]
  refine ⟨⟨((FU.1.1.trans F2.1.1).trans F1.1.1), ((FU.1.2.trans F2.1.2).trans F1.1.2)⟩, ⟨fun a e => ?_, fun k => ?_, fun x => ?_, fun x => ⟨?_, ?_⟩, fun x e => ?_, fun y => ?_⟩, fun a e => ?_, fun y => ?_, fun y => ?_, fun y => ?_, fun y e => ?_, fun y e => ?_⟩
  · simp only [List.mem_cons, List.not_mem_nil, or_false, not_or] at e
    rw [fr_ii e.1, fr_ii e.2.1, si a e.2.2.2.2.2 e.2.2.1, cA_ia (by simp only [List.mem_cons, List.not_mem_nil, or_false, not_or]; omega)]
  · rw [rd_ii, fr_ii (by decide), si 33 (by decide) (by decide), cA_ia (by decide)]
    simp
  · rw [fr_ii (by decide), rd_ii, si 53 (by decide) (by decide), cA_ia (by decide)]
    simp
  · rw [fr_ii (by decide), fr_ii (by decide), si 57 (by decide) (by decide), cA_i]
    simp
  · rw [fr_ii (by decide), fr_ii (by decide), si 58 (by decide) (by decide), cA_i]
    simp
  · rw [fr_ii (by decide), fr_ii (by decide), FU.2.2.1 x e, F2.2.2.1 x e, F1.2.2.1 x e, cA_i, if_neg (by omega), if_neg (by omega), if_neg (by omega)]
  · rw [fr_ii (by decide), fr_ii (by decide), FU.2.1 56 (by decide) (by simp), E56, F1.2.1 56 (by decide) (by simp), cA_ia (by decide)]
  · simp only [List.mem_cons, List.not_mem_nil, or_false, not_or] at e
    rw [fr_li, fr_li, FU.2.2.2.1 a e.2.2.2.2 (by simp only [List.mem_cons, List.not_mem_nil, or_false, not_or]; omega), F2.2.2.2.1 a e.2.2.2.2 (by simp only [List.mem_cons, List.not_mem_nil, or_false, not_or]; omega), F1.2.2.2.1 a e.2.2.2.2 (by simp only [List.mem_cons, List.not_mem_nil, or_false, not_or]; omega), cA_l]
  · rw [fr_li, fr_li, FU.2.2.2.1 46 (by decide) (by decide), F2.2.2.2.1 46 (by decide) (by decide), E1, cA_l]
  · rw [fr_li, fr_li, FU.2.2.2.1 54 (by decide) (by decide), E54, F1.2.2.2.1 54 (by decide) (by decide), cA_l, cA_ia (by decide)]
  · rw [fr_li, fr_li, FU.2.2.2.1 55 (by decide) (by decide), E55, F1.2.2.2.1 55 (by decide) (by decide), cA_l, cA_ia (by decide)]
  · rw [fr_li, fr_li, E51 y e, F2.2.2.2.1 51 (by decide) (by decide), F1.2.2.2.1 51 (by decide) (by decide), cA_l]
  · rw [fr_li, fr_li, FU.2.2.2.2 y e, F2.2.2.2.2 y e, F1.2.2.2.2 y e, cA_l]
theorem mcf_close {q c : Nat → Int64} (ht : t < 6) (hnc : nc ≤ 40) : MCF h (c_7 (c_A h NI t p) NI t p nc 10 (c_5 (c_A h NI t p) NI t (c_4 (c_A h NI t p) NI t (c_3 (c_A h NI t p) NI t (c_2 (c_A h NI t p) NI t (c_1 NI t q c (c_A h NI t p) 4) 4))))) NI t p ∧ (c_5 (c_A h NI t p) NI t (c_4 (c_A h NI t p) NI t (c_3 (c_A h NI t p) NI t (c_2 (c_A h NI t p) NI t (c_1 NI t q c (c_A h NI t p) 4) 4)))).2.2 ≤ 11 ∧ qg_l (c_5 (c_A h NI t p) NI t (c_4 (c_A h NI t p) NI t (c_3 (c_A h NI t p) NI t (c_2 (c_A h NI t p) NI t (c_1 NI t q c (c_A h NI t p) 4) 4)))).1 51 = qg_l h 51 ∧ qg_i (c_5 (c_A h NI t p) NI t (c_4 (c_A h NI t p) NI t (c_3 (c_A h NI t p) NI t (c_2 (c_A h NI t p) NI t (c_1 NI t q c (c_A h NI t p) 4) 4)))).1 52 = qg_i h 52 := by
  obtain ⟨f1, n1, e1⟩ := rf_1 (h := c_A h NI t p) (ni := NI) (q := q) (c := c) ht 4 (Nat.le_refl _)
  generalize c_1 NI t q c (c_A h NI t p) 4 = B1 at *
  obtain ⟨f2, n2, e56, e54, e55⟩ := rf_2 (ni := NI) (t := t) (hA := c_A h NI t p) (b0 := B1) n1 (fun r _ => by rw [f1.2.1 56 (by decide) (by simp)]) 4 (Nat.le_refl _)
  generalize c_2 (c_A h NI t p) NI t B1 4 = B2 at *
  obtain ⟨f3, l3⟩ := rf_3 (t := t) (hA := c_A h NI t p) (RF.refl [] [] B2.1 NI) (b := B2) (by omega)
  obtain ⟨f4, l4⟩ := rf_4 (t := t) (hA := c_A h NI t p) f3 (by omega)
  obtain ⟨f5, l5⟩ := rf_5 (t := t) (hA := c_A h NI t p) f4 (by omega)
  have l6 : (c_5 (c_A h NI t p) NI t (c_4 (c_A h NI t p) NI t (c_3 (c_A h NI t p) NI t B2))).2.2 ≤ 11 := by omega
  generalize c_5 (c_A h NI t p) NI t (c_4 (c_A h NI t p) NI t (c_3 (c_A h NI t p) NI t B2)) = B5 at *
  obtain ⟨g1, g2, g3, g4, g5⟩ := f5
  obtain ⟨fu, eu⟩ := rf_u (t := t) (ni := NI) (p := nI p) hnc 10 B5.1 B5.2.1 B5.2.2 (by omega) B2.1 ⟨g1, g2, g3, fun a h1 _ => g4 a h1 (by simp), g5⟩ (fun y _ => by rw [g4 51 (by decide) (by simp)])
  refine ⟨?_, l6, ?_, ?_⟩
  · unfold c_7
    exact mcf f1 e1 f2 e56 e54 e55 fu eu
  · rw [g4 51 (by decide) (by simp), f2.2.2.2.1 51 (by decide) (by decide), f1.2.2.2.1 51 (by decide) (by decide), cA_l]
  · rw [g2 52 (by decide) (by simp), f2.2.1 52 (by decide) (by simp), f1.2.1 52 (by decide) (by simp), cA_ia (by decide)]
end CM
