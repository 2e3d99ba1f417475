/-! Rows with the values named; numbers as naturals -/
section VM
variable {y : MethodName} {cc : ByteArray} {nL : Nat} {ret : Option FieldType} {R : Room} {mc ms : Nat} {n0 : Nat → Nat} {Post : Option qV → qH → Prop} {pc : Nat} {L : List (Nat × qV)} {st : List qV} {h : qH} {cells slots : Nat} {r i c k idx : Nat}
theorem V_getR (n : Nat) (c k : Nat) (hw : Cond.fieldLink y.cls idx (rg_T c k).1 (rg_T c k).2.1 (rg_T c k).2.2.1 ∈ lw_tbl) (hd : decode cc pc = .ok (.getfield idx, 3)) (hn : pc + 3 = n) (hk : rg_k r = .inl c) (hkN : k < rg_N c) (ht : (∃ t, rg_t c k = .object t) ∨ ∃ t, rg_t c k = .array t) (hr : r ≠ 0) {v : Option (Nat × Nat)} (hv : qg_r h r i k = v) (K : Vw y cc nL ret R mc ms n0 Post n L ((.inr (.inr v)) :: st) h cells slots) : Vw y cc nL ret R mc ms n0 Post pc L ((.inr (.inr (some (r, i)))) :: st) h cells slots := by
  subst hv
  rcases ht with ht | ht
  · exact V_geto n c k hw hd hn hk hkN ht hr K
  · exact V_geta n c k hw hd hn hk hkN ht hr K
theorem V_aaldR (n : Nat) {x : Int32} {ty : FieldType} (j : Nat) (hd : decode cc pc = .ok (.aaload, 1)) (hn : pc + 1 = n) (hk : rg_k r = .inr ty) (hty : (∃ t, ty = .object t) ∨ ∃ t, ty = .array t) (hr : r ≠ 0) (hx : x = nI j) (hj : j < rg_n r) (hm : rg_n r < 2 ^ 31) {v : Option (Nat × Nat)} (hv : qg_r h r i j = v) (K : Vw y cc nL ret R mc ms n0 Post n L ((.inr (.inr v)) :: st) h cells slots) : Vw y cc nL ret R mc ms n0 Post pc L (.inl x :: (.inr (.inr (some (r, i)))) :: st) h cells slots := by
  subst hv; subst hx
  refine V_aald n hd hn hk hty hr (vp_in_nI hj hm) ?_
  rw [nI_clamp (Nat.lt_trans hj hm)]
  exact K
theorem V_ialdN (n : Nat) {x : Int32} (j : Nat) (hd : decode cc pc = .ok (.iaload, 1)) (hn : pc + 1 = n) (hk : rg_k r = .inr .int) (hr : r ≠ 0) (hx : x = nI j) (hj : j < rg_n r) (hm : rg_n r < 2 ^ 31) (K : Vw y cc nL ret R mc ms n0 Post n L ((.inl (qg_i h r i j)) :: st) h cells slots) : Vw y cc nL ret R mc ms n0 Post pc L (.inl x :: (.inr (.inr (some (r, i)))) :: st) h cells slots := by
  subst hx
  refine V_iald n hd hn hk hr (vp_in_nI hj hm) ?_
  rw [nI_clamp (Nat.lt_trans hj hm)]
  exact K
theorem V_zaldN (n : Nat) {x : Int32} (j : Nat) (hd : decode cc pc = .ok (.baload, 1)) (hn : pc + 1 = n) (hk : rg_k r = .inr .boolean) (hr : r ≠ 0) (hx : x = nI j) (hj : j < rg_n r) (hm : rg_n r < 2 ^ 31) (K : Vw y cc nL ret R mc ms n0 Post n L ((.inl (qg_i h r i j)) :: st) h cells slots) : Vw y cc nL ret R mc ms n0 Post pc L (.inl x :: (.inr (.inr (some (r, i)))) :: st) h cells slots := by
  subst hx
  refine V_zald n hd hn hk hr (vp_in_nI hj hm) ?_
  rw [nI_clamp (Nat.lt_trans hj hm)]
  exact K
theorem V_laldN (n : Nat) {x : Int32} (j : Nat) (hd : decode cc pc = .ok (.laload, 1)) (hn : pc + 1 = n) (hk : rg_k r = .inr .long) (hr : r ≠ 0) (hx : x = nI j) (hj : j < rg_n r) (hm : rg_n r < 2 ^ 31) (K : Vw y cc nL ret R mc ms n0 Post n L ((.inr (.inl (qg_l h r i j))) :: st) h cells slots) : Vw y cc nL ret R mc ms n0 Post pc L (.inl x :: (.inr (.inr (some (r, i)))) :: st) h cells slots := by
  subst hx
  refine V_lald n hd hn hk hr (vp_in_nI hj hm) ?_
  rw [nI_clamp (Nat.lt_trans hj hm)]
  exact K
theorem V_iastN (n : Nat) {x v : Int32} (j : Nat) (hd : decode cc pc = .ok (.iastore, 1)) (hn : pc + 1 = n) (hk : rg_k r = .inr .int) (hr : r ≠ 0) (hx : x = nI j) (hj : j < rg_n r) (hm : rg_n r < 2 ^ 31) (K : Vw y cc nL ret R mc ms n0 Post n L st (qs_i h r i j v) cells slots) : Vw y cc nL ret R mc ms n0 Post pc L (.inl v :: .inl x :: (.inr (.inr (some (r, i)))) :: st) h cells slots := by
  subst hx
  refine V_iast n hd hn hk hr (vp_in_nI hj hm) ?_
  rw [nI_clamp (Nat.lt_trans hj hm)]
  exact K
theorem V_zastN (n : Nat) {x v : Int32} (j : Nat) (hd : decode cc pc = .ok (.bastore, 1)) (hn : pc + 1 = n) (hk : rg_k r = .inr .boolean) (hr : r ≠ 0) (hx : x = nI j) (hj : j < rg_n r) (hm : rg_n r < 2 ^ 31) (hv : narrow .boolean (.int v) = .int v) (K : Vw y cc nL ret R mc ms n0 Post n L st (qs_i h r i j v) cells slots) : Vw y cc nL ret R mc ms n0 Post pc L (.inl v :: .inl x :: (.inr (.inr (some (r, i)))) :: st) h cells slots := by
  subst hx
  refine V_zast n hd hn hk hr (vp_in_nI hj hm) hv ?_
  rw [nI_clamp (Nat.lt_trans hj hm)]
  exact K
theorem V_lastN (n : Nat) {x : Int32} {v : Int64} (j : Nat) (hd : decode cc pc = .ok (.lastore, 1)) (hn : pc + 1 = n) (hk : rg_k r = .inr .long) (hr : r ≠ 0) (hx : x = nI j) (hj : j < rg_n r) (hm : rg_n r < 2 ^ 31) (K : Vw y cc nL ret R mc ms n0 Post n L st (qs_l h r i j v) cells slots) : Vw y cc nL ret R mc ms n0 Post pc L (.inr (.inl v) :: .inl x :: (.inr (.inr (some (r, i)))) :: st) h cells slots := by
  subst hx
  refine V_last n hd hn hk hr (vp_in_nI hj hm) ?_
  rw [nI_clamp (Nat.lt_trans hj hm)]
  exact K
theorem V_aastN (n : Nat) {x : Int32} {r2 i2 c2 : Nat} (j : Nat) (hd : decode cc pc = .ok (.aastore, 1)) (hn : pc + 1 = n) (hk : rg_k r = .inr (.object (rg_C c2))) (hk2 : rg_k r2 = .inl c2) (hr : r ≠ 0) (hr2 : r2 ≠ 0) (hx : x = nI j) (hj : j < rg_n r) (hm : rg_n r < 2 ^ 31) (K : Vw y cc nL ret R mc ms n0 Post n L st (qs_r h r i j (some (r2, i2))) cells slots) : Vw y cc nL ret R mc ms n0 Post pc L ((.inr (.inr (some (r2, i2)))) :: .inl x :: (.inr (.inr (some (r, i)))) :: st) h cells slots := by
  subst hx
  refine V_aast n hd hn hk hk2 hr hr2 (vp_in_nI hj hm) ?_
  rw [nI_clamp (Nat.lt_trans hj hm)]
  exact K
theorem V_iinc1 (n : Nat) {i : Nat} {x : Int32} (hd : decode cc pc = .ok (.iinc i 1, 3)) (hn : pc + 3 = n) (hl : qlk L i = some (.inl x)) (hi : i < nL) (K : Vw y cc nL ret R mc ms n0 Post n (qst L i (.inl (x + 1))) st h cells slots) : Vw y cc nL ret R mc ms n0 Post pc L st h cells slots := V_iinc n hd hn hl rfl hi K
theorem V_iincN (n : Nat) {i j : Nat} (hd : decode cc pc = .ok (.iinc i 1, 3)) (hn : pc + 3 = n) (hl : qlk L i = some (.inl (nI j))) (hi : i < nL) (K : Vw y cc nL ret R mc ms n0 Post n (qst L i (.inl (nI (j + 1)))) st h cells slots) : Vw y cc nL ret R mc ms n0 Post pc L st h cells slots := V_iinc n hd hn hl (nI_succ j).symm hi K
theorem V_at {L' : List (Nat × qV)} (k : Vw y cc nL ret R mc ms n0 Post pc L' st h cells slots) (hs : qsub L' L) : Vw y cc nL ret R mc ms n0 Post pc L st h cells slots := V_loc hs k
/-- the heap under another name -/
theorem V_heap {h2 : qH} (e : h = h2) (K : Vw y cc nL ret R mc ms n0 Post pc L st h2 cells slots) : Vw y cc nL ret R mc ms n0 Post pc L st h cells slots := e ▸ K
end VM
theorem qM.weak {y : MethodName} {cc : ByteArray} {nL : Nat} {ret : Option FieldType} {d lo mc ms : Nat} {as : List qV} {h : qH} {P P2 : Option qV → qH → Prop} (M : qM y cc nL ret d lo mc ms as h P) (hP : ∀ v h', P v h' → P2 v h') : qM y cc nL ret d lo mc ms as h P2 := by
  intro l D sz ρ hcl p e ha hc hk s m args below hf hfit hPc hkk
  obtain ⟨n, o, h1, h2, h3, ⟨⟨v, h', ρ', q1, q2, q3⟩, q4⟩, q5⟩ := M l D sz ρ hcl p e ha hc hk s m args below hf hfit hPc hkk
  exact ⟨n, o, h1, h2, h3, ⟨⟨v, h', ρ', q1, hP v h' q2, q3⟩, q4⟩, q5⟩
theorem nz_b : ∀ {x : Int32}, (x = 0 ∨ x = 1) → narrow .boolean (.int x) = .int x := fun h => by rcases h with rfl | rfl <;> rfl
theorem lg_c (x z : Int64) : (lg_cmp x z = 1 ∧ z.toInt < x.toInt) ∨ (lg_cmp x z = 0 ∧ x.toInt = z.toInt) ∨ (lg_cmp x z = -1 ∧ x.toInt < z.toInt) := by
  unfold lg_cmp
  split
  · rename_i h
    exact Or.inl ⟨rfl, Int64.lt_iff_toInt_lt.mp h⟩
  · split
    · rename_i h1 h2
      exact Or.inr (Or.inl ⟨rfl, by rw [h2]⟩)
    · rename_i h1 h2
      refine Or.inr (Or.inr ⟨rfl, ?_⟩)
      have h1 : ¬ z < x := h1
      rw [Int64.lt_iff_toInt_lt] at h1
      have : x.toInt ≠ z.toInt := fun e => h2 (Int64.toInt_inj.mp e)
      omega
theorem lg_lt {x z : Int64} : (lg_cmp x z < 0) = (x < z) := by
  rw [Int64.lt_iff_toInt_lt]
  rcases lg_c x z with ⟨e, h⟩ | ⟨e, h⟩ | ⟨e, h⟩ <;> rw [e]
  · exact propext ⟨fun q => absurd q (by decide), fun q => by omega⟩
  · exact propext ⟨fun q => absurd q (by decide), fun q => by omega⟩
  · exact propext ⟨fun q => h, fun q => by decide⟩
theorem lg_gt {x z : Int64} : (0 < lg_cmp x z) = (z < x) := by
  rw [Int64.lt_iff_toInt_lt]
  rcases lg_c x z with ⟨e, h⟩ | ⟨e, h⟩ | ⟨e, h⟩ <;> rw [e]
  · exact propext ⟨fun q => h, fun q => by decide⟩
  · exact propext ⟨fun q => absurd q (by decide), fun q => by omega⟩
  · exact propext ⟨fun q => absurd q (by decide), fun q => by omega⟩
theorem lg_ge {x z : Int64} : (0 ≤ lg_cmp x z) = (z ≤ x) := by
  rw [Int64.le_iff_toInt_le]
  rcases lg_c x z with ⟨e, h⟩ | ⟨e, h⟩ | ⟨e, h⟩ <;> rw [e]
  · exact propext ⟨fun q => by omega, fun q => by decide⟩
  · exact propext ⟨fun q => by omega, fun q => by decide⟩
  · exact propext ⟨fun q => absurd q (by decide), fun q => by omega⟩
theorem lg_le {x z : Int64} : (lg_cmp x z ≤ 0) = (x ≤ z) := by
  rw [Int64.le_iff_toInt_le]
  rcases lg_c x z with ⟨e, h⟩ | ⟨e, h⟩ | ⟨e, h⟩ <;> rw [e]
  · exact propext ⟨fun q => absurd q (by decide), fun q => by omega⟩
  · exact propext ⟨fun q => by omega, fun q => by decide⟩
  · exact propext ⟨fun q => by omega, fun q => by decide⟩
theorem lg_eq {x z : Int64} : (lg_cmp x z = 0) = (x = z) := by
  rw [← Int64.toInt_inj]
  rcases lg_c x z with ⟨e, h⟩ | ⟨e, h⟩ | ⟨e, h⟩ <;> rw [e]
  · exact propext ⟨fun q => absurd q (by decide), fun q => by omega⟩
  · exact propext ⟨fun q => h, fun q => rfl⟩
  · exact propext ⟨fun q => absurd q (by decide), fun q => by omega⟩
