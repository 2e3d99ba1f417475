/-! New objects: rows with their numbers, rows of longs, what is not made yet -/
def FRZ (h : qH) : Prop := ∀ r i k, qg_n h r ≤ i → qg_i h r i k = 0 ∧ qg_l h r i k = 0 ∧ qg_r h r i k = none
theorem ao_Tenant : ∀ (D : va_G) (s : State), qa_K D s → va_AO "QuotaMeter$Tenant" s := fun _ _ h => h.2.1.1
theorem ao_Account : ∀ (D : va_G) (s : State), qa_K D s → va_AO "QuotaMeter$Account" s := fun _ _ h => h.2.1.2.1
theorem ao_Hold : ∀ (D : va_G) (s : State), qa_K D s → va_AO "QuotaMeter$Hold" s := fun _ _ h => h.2.1.2.2.1
theorem ao_Invoice : ∀ (D : va_G) (s : State), qa_K D s → va_AO "QuotaMeter$Invoice" s := fun _ _ h => h.2.1.2.2.2.1
theorem ao_Prices : ∀ (D : va_G) (s : State), qa_K D s → va_AO "QuotaMeter$Prices" s := fun _ _ h => h.2.1.2.2.2.2
theorem qa_J.use {A : Array Value} {U : State} (h : qa_J U) : (Cond.arrayOver (.array .long)).before A U = true := by
  obtain ⟨comp, c, k, h1, h2, h3, h4, h5⟩ := h
  unfold Cond.before Cond.holds
  simp only [Cond.value]
  rw [h1, Option.bind_some]
  refine (congrArg (fun o : Option Nat => (o.bind (fun c => (U.vm.classes[c]?).map fun (k : Class) => match k.kind with | .array _ ty => decide (ty = FieldType.array .long) && decide (U.vm.findClass ("[" ++ (FieldType.array .long).toString) = some c) | _ => false) == some true)) h2).trans ?_
  simp [h3, h4, h5]
def f_mn (h : qH) (a : Nat) : qH := qs_r (qs_r (qs_r (qs_r (qs_n (qs_n (qs_n (qs_n (qs_n h 23) 24) 24) 24) 24) 23 a 0 (some (24, 4 * a))) 23 a 1 (some (24, 4 * a + 1))) 23 a 2 (some (24, 4 * a + 2))) 23 a 3 (some (24, 4 * a + 3))
theorem qa_R.push {D : va_G} {sz : Nat} {ρ : Nat → Nat → Nat} {h : qH} {s : State} {H : Heap} {r : Nat} {ty : FieldType} {cA : ClassId} {v : Value} (A : qa_R D sz ρ h s H) (hr : r ≠ 0) (hk : rg_k r = .inr ty) (hp : (ty = .long ∧ v = .long 0) ∨ (ty = .array .long ∧ v = .null)) (hAr : ArrOfT s cA ty) (hNm : s.vm.findClass ("[" ++ ty.toString) = some cA) : qa_R D sz (qr_up ρ r (qg_n h r) H.size) (qs_n h r) s (H.push (arrV cA (rg_n r) (fun _ => v))) := by
  have hz0 := A.2.2.1 r (qg_n h r)
  refine A.new hr ((qa_at_a hk).mpr ⟨cA, hAr, ?_, ?_⟩) (fun q hq => by rw [Array.getElem?_push, if_neg (Nat.ne_of_lt hq)]) (by rw [Array.size_push])
  · rcases hp with ⟨rfl, -⟩ | ⟨rfl, -⟩ <;> exact hNm
  · rw [qr_up_eq, Array.getElem?_push_size]
    have w2 : qg_l h r (qg_n h r) = fun _ => 0 := funext fun k => (hz0 k (Nat.le_refl _)).2.1
    have w3 : qg_r h r (qg_n h r) = fun _ => none := funext fun k => (hz0 k (Nat.le_refl _)).2.2
    rcases hp with ⟨rfl, rfl⟩ | ⟨rfl, rfl⟩ <;> simp [qf_a, vp_cell, w2, w3, qc_o, va_rf]
theorem arrV_to {cA : ClassId} {N : Nat} {f g : Nat → Value} (h : ∀ j, j < N → f j = g j) : arrV cA N f = arrV cA N g := by
  unfold arrV
  congr 1
  apply Array.ext
  · simp
  · intro i h1 h2
    simp
    exact h i (by simpa using h1)
theorem outer_arrV (c : ClassId) (N h0 : Nat) : ∀ i : Nat, Jvm.Free.Multi.outerC c N h0 i = arrV c N (fun j => if j < i then .ref (h0 + 1 + j) else .null)
  | 0 => by
    show ({ cls := c, slots := Array.replicate N .null, vm := .none } : Cell) = _
    rw [arrV_new]
    refine congrArg (arrV c N) (funext fun j => ?_)
    simp
  | i + 1 => by
    show (Jvm.Free.Multi.outerC c N h0 i).setSlot i (.ref (h0 + 1 + i)) = _
    rw [outer_arrV c N h0 i, arrV_store]
    refine congrArg (arrV c N) (funext fun j => ?_)
    by_cases e : j = i
    · subst e
      simp [updV]
    · by_cases q : j < i
      · simp [updV, e, q, Nat.lt_succ_of_lt q]
      · simp [updV, e, q, show ¬ j < i + 1 by omega]
theorem push5 {X : Array Cell} {o r : Cell} {q n : Nat} (hn : X.size = n) : (((((X.push o).push r).push r).push r).push r)[q]? = (if q < n then X[q]? else if q = n then some o else if q < n + 5 then some r else none) := by
  simp only [Array.getElem?_push, Array.size_push, hn]
  by_cases z1 : q < n
  · rw [if_neg (by omega), if_neg (by omega), if_neg (by omega), if_neg (by omega), if_neg (by omega), if_pos z1]
  · by_cases z2 : q = n
    · rw [if_neg (by omega), if_neg (by omega), if_neg (by omega), if_neg (by omega), if_pos z2, if_neg z1, if_pos z2]
    · rw [if_neg z1, if_neg z2]
      by_cases z3 : q < n + 5
      · rw [if_pos z3]
        by_cases y4 : q = n + 1 + 1 + 1 + 1
        · rw [if_pos y4, if_neg z2]
        · rw [if_neg y4]
          by_cases y3 : q = n + 1 + 1 + 1
          · rw [if_pos y3, if_neg z2]
          · rw [if_neg y3]
            by_cases y2 : q = n + 1 + 1
            · rw [if_pos y2, if_neg z2]
            · rw [if_neg y2, if_pos (by omega), if_neg z2]
      · rw [if_neg z3, if_neg (by omega), if_neg (by omega), if_neg (by omega), if_neg (by omega), if_neg (by omega)]
        exact Array.getElem?_eq_none (by omega)
theorem inner_arrV (c : ClassId) (M : Nat) (v : Value) : Jvm.Free.Multi.innerC c M v = arrV c M (fun _ => v) := arrV_new c M v
section VN
variable {y : MethodName} {cc : ByteArray} {nL : Nat} {ret : Option FieldType} {R : Room} {mc ms : Nat} {n0 : Nat → Nat} {Post : Option qV → qH → Prop} {pc : Nat} {L : List (Nat × qV)} {st : List qV} {h : qH} {cells slots : Nat} {r i c k idx : Nat}
theorem V_fresh (K : FRZ h → Vw y cc nL ret R mc ms n0 Post pc L st h cells slots) : Vw y cc nL ret R mc ms n0 Post pc L st h cells slots := by
  intro p l e s m args below meth c0 Q D sz ρ0 ρ H locs ls X S E
  exact K S.2.2.2.1.1.2.2.1 p l e s m args below meth c0 Q D sz ρ0 ρ H locs ls X S E
theorem V_cnt {cells' slots' : Nat} (e1 : cells = cells') (e2 : slots = slots') (K : Vw y cc nL ret R mc ms n0 Post pc L st h cells' slots') : Vw y cc nL ret R mc ms n0 Post pc L st h cells slots := by
  subst e1
  subst e2
  exact K
theorem V_newI (n r c : Nat) {idx i : Nat} (hd : decode cc pc = .ok (.new idx, 3)) (hn : pc + 3 = n) (hk : rg_k r = .inl c) (hr : r ≠ 0) (hc9 : c < 9) (hw1 : Cond.classLink y.cls idx (rg_C c) ∈ lw_tbl) (hw2 : Cond.instantiable (rg_C c) (rg_N c) ∈ lw_tbl) (hw3 : Cond.initialized (rg_C c) ∈ lw_tbl) (hc : cells + 1 ≤ R.cells) (hs : slots + rg_N c ≤ R.slots) (hdf : ∀ k, k < rg_N c → rg_t c k ≠ .float ∧ rg_t c k ≠ .double) (hi : qg_n h r = i) (K : Vw y cc nL ret R mc ms n0 Post n L ((.inr (.inr (some (r, i)))) :: st) (qs_n h r) (cells + 1) (slots + rg_N c)) : Vw y cc nL ret R mc ms n0 Post pc L st h cells slots := by
  subst hi
  exact V_new n r c hd hn hk hr hc9 hw1 hw2 hw3 hc hs hdf K
theorem V_newaI (n r : Nat) {i : Nat} {at_ : ArrayType} {x : Int32} {ty : FieldType} (hd : decode cc pc = .ok (.newarray at_, 2)) (hn : pc + 2 = n) (hk : rg_k r = .inr ty) (hr : r ≠ 0) (hty : newarray.typeOf at_ = ty) (hp : ty = .int ∨ ty = .long ∨ ty = .boolean) (hw : Cond.arrayClass ty ∈ lw_tbl) (hx : ¬ x < 0) (hN : x.toNatClampNeg = rg_n r) (hb : rg_n r * 8 ≤ 536870912) (hc : cells + 1 ≤ R.cells) (hs : slots + rg_n r ≤ R.slots) (hi : qg_n h r = i) (K : Vw y cc nL ret R mc ms n0 Post n L ((.inr (.inr (some (r, i)))) :: st) (qs_n h r) (cells + 1) (slots + rg_n r)) : Vw y cc nL ret R mc ms n0 Post pc L (.inl x :: st) h cells slots := by
  subst hi
  exact V_newa n r hd hn hk hr hty hp hw hx hN hb hc hs K
theorem V_anewaI (n r : Nat) {i : Nat} {x : Int32} {idx : Nat} {C : String} (hd : decode cc pc = .ok (.anewarray idx, 3)) (hn : pc + 3 = n) (hk : rg_k r = .inr (.object C)) (hr : r ≠ 0) (hw : Cond.classLink y.cls idx C ∈ lw_tbl) (ho : ∀ (D : va_G) (s : State), qa_K D s → va_AO C s) (hx : ¬ x < 0) (hN : x.toNatClampNeg = rg_n r) (hb : rg_n r * 4 ≤ 536870912) (hc : cells + 1 ≤ R.cells) (hs : slots + rg_n r ≤ R.slots) (hi : qg_n h r = i) (K : Vw y cc nL ret R mc ms n0 Post n L ((.inr (.inr (some (r, i)))) :: st) (qs_n h r) (cells + 1) (slots + rg_n r)) : Vw y cc nL ret R mc ms n0 Post pc L (.inl x :: st) h cells slots := by
  subst hi
  exact V_anewa n r hd hn hk hr hw ho hx hN hb hc hs K
theorem V_mna (n : Nat) {a idx : Nat} (hd : decode cc pc = .ok (.multianewarray idx 2, 4)) (hn : pc + 4 = n) (hw1 : Cond.classLink y.cls idx "[[J" ∈ lw_tbl) (hw2 : Cond.arrayClass .long ∈ lw_tbl) (h23 : qg_n h 23 = a) (h24 : qg_n h 24 = 4 * a) (hc : cells + 5 ≤ R.cells) (hs : slots + 404 ≤ R.slots) (K : Vw y cc nL ret R mc ms n0 Post n L ((.inr (.inr (some (23, a)))) :: st) (f_mn h a) (cells + 5) (slots + 404)) : Vw y cc nL ret R mc ms n0 Post pc L (.inl 100 :: .inl 4 :: st) h cells slots := by
  subst hn
  intro p l e s m args below meth c0 Q D sz ρ0 ρ H locs ls X S E
  have A := S.2.2.2.1.1
  intro T hT Xs
  have t4 : (4 : Int32).toNatClampNeg = 4 := rfl
  have t100 : (100 : Int32).toNatClampNeg = 100 := rfl
  obtain ⟨vm₁, cA, cy, -, fA, fC, hO, hI, X', step⟩ := Xs.multianewarray2F X.1 (own := y.cls) (index := idx) (ty := .long) X.2.2.2.1 (X.2.2.2.2.1 _ (gd_in hw1 rfl)) (qa_J.use A.2.2.2.2.1.2.2) (X.2.2.2.2.1 _ (gd_in hw2 rfl)) (n := 4) (k := 100) (rest := st.map (qc_v ρ)) (g := F0 m pc ls (.int 100 :: .int 4 :: st.map (qc_v ρ))) rfl (by rw [X.2.1]; exact hd) rfl (by decide) (by decide) (by decide) (by decide) (by decide) rfl rfl (by rw [t4]; omega) (by rw [t4, t100]; omega)
  rw [t4, t100] at X'
  have hAr : ArrOfT s cA (.array .long) := fun N9 z9 => by
    obtain ⟨-, k9, hk9, cm9, hkk9⟩ := (hO 0 0 0).1
    exact ⟨(fun q hq => by cases hq), k9, hk9, cm9, hkk9⟩
  have hAy : ArrOfT s cy .long := fun N9 z9 => by
    obtain ⟨-, k9, hk9, cm9, hkk9⟩ := (hI 0 .null).1
    exact ⟨(fun q hq => by cases hq), k9, hk9, cm9, hkk9⟩
  generalize hF : Jvm.Free.Multi.fill (T.setVm vm₁) cA cy 4 100 (defaultValue .long) 4 = F at X'
  have hstep : ∀ target, Steps p.tables e below (F.setTop (F0 m (pc + 4) ls (.ref H.size :: st.map (qc_v ρ)))) target → Steps p.tables e below (T.setTop (F0 m pc ls (.int 100 :: .int 4 :: st.map (qc_v ρ)))) target := by
    intro tg htg
    refine step tg ?_
    rw [t4, t100, hF, hT]
    exact htg
  have hTh : (T.setVm vm₁).heap = H := hT
  obtain ⟨f1, f2, -, -⟩ := Jvm.Free.Multi.fill_facts (T.setVm vm₁) cA cy 4 100 (defaultValue .long) 4
  rw [hF, hTh] at f1 f2
  have hold : ∀ x : Nat, x < H.size → F.heap[x]? = H[x]? := fun x hx => by
    have := Jvm.Free.Multi.fill_old (T.setVm vm₁) cA cy 4 100 (defaultValue .long) (a := x) (by rw [hTh]; exact hx) 4
    rw [hF, hTh] at this
    exact this
  have hrow : ∀ j : Nat, j < 4 → F.heap[H.size + 1 + j]? = some (arrV cy 100 (fun _ => .long 0)) := fun j hj => by
    have := Jvm.Free.Multi.fill_inner (T.setVm vm₁) cA cy 4 100 (defaultValue .long) 4 j hj
    rw [hF, hTh, inner_arrV] at this
    exact this
  rw [outer_arrV] at f2
  have A1 := A.push (r := 23) (ty := .array .long) (v := .null) (by decide) rfl (Or.inr ⟨rfl, rfl⟩) hAr fA
  have A2 := A1.push (r := 24) (ty := .long) (v := .long 0) (by decide) rfl (Or.inl ⟨rfl, rfl⟩) hAy fC
  have A3 := A2.push (r := 24) (ty := .long) (v := .long 0) (by decide) rfl (Or.inl ⟨rfl, rfl⟩) hAy fC
  have A4 := A3.push (r := 24) (ty := .long) (v := .long 0) (by decide) rfl (Or.inl ⟨rfl, rfl⟩) hAy fC
  have A5 := A4.push (r := 24) (ty := .long) (v := .long 0) (by decide) rfl (Or.inl ⟨rfl, rfl⟩) hAy fC
  clear A1 A2 A3 A4
  have c24 : qg_n (qs_n h 23) 24 = 4 * a := h24
  have c25 : qg_n (qs_n (qs_n h 23) 24) 24 = 4 * a + 1 := by rw [qnn, if_pos rfl, c24]
  have c26 : qg_n (qs_n (qs_n (qs_n h 23) 24) 24) 24 = 4 * a + 2 := by rw [qnn, if_pos rfl, c25]
  have c27 : qg_n (qs_n (qs_n (qs_n (qs_n h 23) 24) 24) 24) 24 = 4 * a + 3 := by rw [qnn, if_pos rfl, c26]
  have c28 : qg_n (qs_n (qs_n (qs_n (qs_n (qs_n h 23) 24) 24) 24) 24) 24 = 4 * a + 4 := by rw [qnn, if_pos rfl, c27]
  have c23 : qg_n (qs_n (qs_n (qs_n (qs_n (qs_n h 23) 24) 24) 24) 24) 23 = a + 1 := by
    show qg_n (qs_n h 23) 23 = _
    rw [qnn, if_pos rfl, h23]
  rw [c24, c25, c26, c27, h23] at A5
  simp only [Array.size_push] at A5
  generalize hρ5 : qr_up (qr_up (qr_up (qr_up (qr_up ρ 23 a H.size) 24 (4 * a) (H.size + 1)) 24 (4 * a + 1) (H.size + 1 + 1)) 24 (4 * a + 2) (H.size + 1 + 1 + 1)) 24 (4 * a + 3) (H.size + 1 + 1 + 1 + 1) = ρ5 at A5
  have e23 : ρ5 23 a = H.size := by rw [← hρ5]; simp [qr_up]
  have e24 : ∀ j, j < 4 → ρ5 24 (4 * a + j) = H.size + 1 + j := by
    intro j hj
    rw [← hρ5]
    rcases (show j = 0 ∨ j = 1 ∨ j = 2 ∨ j = 3 by omega) with rfl | rfl | rfl | rfl <;> simp [qr_up]
  have hle : ∀ b, qg_n h b ≤ qg_n (f_mn h a) b := fun b => by
    show qg_n h b ≤ qg_n (qs_n (qs_n (qs_n (qs_n (qs_n h 23) 24) 24) 24) 24) b
    simp only [qnn]
    split <;> split <;> omega
  have hρ : ∀ b j, j < qg_n h b → ρ5 b j = ρ b j := by
    intro b j hj
    rw [← hρ5]
    by_cases b24 : b = 24
    · subst b24
      rw [h24] at hj
      simp [qr_up, show j ≠ 4 * a + 3 by omega, show j ≠ 4 * a + 2 by omega, show j ≠ 4 * a + 1 by omega, show j ≠ 4 * a by omega]
    · by_cases b23 : b = 23
      · subst b23
        rw [h23] at hj
        simp [qr_up, show j ≠ a by omega]
      · simp [qr_up, b24, b23]
  have gr : ∀ j, j < 4 → qg_r (f_mn h a) 23 a j = some (24, 4 * a + j) := by
    intro j hj
    rcases (show j = 0 ∨ j = 1 ∨ j = 2 ∨ j = 3 by omega) with rfl | rfl | rfl | rfl <;> simp [f_mn, qrr]
  have gr4 : ∀ j, 4 ≤ j → qg_r (f_mn h a) 23 a j = qg_r h 23 a j := by
    intro j hj
    simp [f_mn, qrr, qrn, show j ≠ 0 by omega, show j ≠ 1 by omega, show j ≠ 2 by omega, show j ≠ 3 by omega]
  have AF : qa_R D sz ρ5 (f_mn h a) s F.heap := by
    refine A5.upd (r := 23) (i := a) (by decide) (by rw [c23]; omega) rfl (fun r' i' hne => ?_) (fun k b hb => ?_) ?_ (fun q hq => ?_) ?_
    · refine ⟨rfl, rfl, funext fun z => ?_⟩
      have : ∀ j, ¬ (r' = 23 ∧ i' = a ∧ z = j) := fun j q => hne ⟨q.1, q.2.1⟩
      simp only [f_mn, qrr, if_neg (this _)]
    · rcases Nat.lt_or_ge k 4 with q | q
      · rw [gr k q] at hb
        cases hb
        show 4 * a + k < _
        rw [c28]
        omega
      · rw [gr4 k q] at hb
        exact absurd ((A.2.2.1 23 a k (by omega)).2.2.symm.trans hb) (by simp)
    · refine (qa_at_a (ty := .array .long) rfl).mpr ⟨cA, hAr, fA, ?_⟩
      rw [e23, f2]
      show _ = some (arrV cA 4 (fun j => va_rf (qc_o ρ5 (qg_r (f_mn h a) 23 a j))))
      refine congrArg some (arrV_to (fun j hj => ?_))
      rw [gr j hj, if_pos hj]
      show _ = Value.ref (ρ5 24 (4 * a + j))
      rw [e24 j hj]
    · rw [e23] at hq
      generalize hsz : H.size = sz0 at hq hold hrow f1
      rw [push5 (X := H) (n := sz0) hsz]
      rcases Nat.lt_or_ge q sz0 with z | z
      · rw [if_pos z]
        exact hold q z
      · rw [if_neg (Nat.not_lt.mpr z), if_neg hq]
        by_cases z5 : q < sz0 + 5
        · rw [if_pos z5]
          have hq2 : sz0 ≠ q := fun w => hq w.symm
          obtain ⟨d, rfl⟩ : ∃ d, q = sz0 + 1 + d := ⟨q - sz0 - 1, by omega⟩
          exact hrow d (by omega)
        · rw [if_neg z5]
          exact Array.getElem?_eq_none (by rw [f1]; omega)
    · rw [f1]
      simp only [Array.size_push]
  have kk := K p l e s m args below meth c0 Q D sz ρ0 ρ5 F.heap locs ls X ⟨⟨fun b => Nat.le_trans (S.1.1 b) (hle b), fun b j hb => (hρ b j (Nat.lt_of_lt_of_le hb (S.1.1 b))).trans (S.1.2 b j hb)⟩, ⟨by rw [qc_Lm hρ S.2.1.2]; exact S.2.1.1, qk_Lm hle S.2.1.2⟩, qk_c (fun b hb => by cases hb; show a < qg_n (qs_n (qs_n (qs_n (qs_n (qs_n h 23) 24) 24) 24) 24) 23; rw [c23]; exact Nat.lt_succ_self _) (qk_lm hle (qk_t (qk_t S.2.2.1))), ⟨AF, S.2.2.2.1.2⟩, ⟨by rw [f1]; have := S.2.2.2.2.1.1; omega, fun x h1 h2 => (hold x (Nat.lt_of_lt_of_le h1 S.2.2.2.2.1.1)).trans (S.2.2.2.2.1.2.1 x h1 h2), S.2.2.2.2.1.2.2⟩, S.2.2.2.2.2⟩ E
  have e9 : (qv_r (some (23, a)) :: st).map (qc_v ρ5) = .ref H.size :: st.map (qc_v ρ) := by
    rw [List.map_cons, qc_lm hρ (qk_t (qk_t S.2.2.1))]
    show Value.ref (ρ5 23 a) :: _ = _
    rw [e23]
  rw [e9] at kk
  obtain ⟨t, a1, b1⟩ := kk F rfl X'
  exact ⟨t, hstep t a1, b1⟩
end VN
