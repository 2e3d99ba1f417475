/-! The judgement: from this abstract frame the method comes to its end with Post -/
def lw_good : List Cond := lw_tbl.filter goodWord
theorem gd_in {w : Cond} (h : w ∈ lw_tbl) (g : goodWord w = true) : w ∈ lw_good := List.mem_filter.mpr ⟨h, g⟩
theorem gd_ok : GoodIn lw_good lw_good := fun w h => ⟨h, good_of_word (List.mem_filter.mp h).2⟩
def qX (y : MethodName) (cc : ByteArray) (nL : Nat) (ret : Option FieldType) (p : Program) (s : State) (m : MethodId) (args : Array Value) (meth : Method) (c : Code) : Prop :=
  p.tables.exec = Jvm.exec ∧ c.code = cc ∧ c.maxLocals = nL ∧ s.vm.findClass y.cls = some m.cls ∧ (∀ w ∈ lw_good, w.before args s = true) ∧ meth.sig.returnType = ret ∧ meth.locks = false ∧ meth.name = y.name
def qS (n0 : Nat → Nat) (ρ0 : Nat → Nat → Nat) (sz : Nat) (D : va_G) (s : State) (ρ : Nat → Nat → Nat) (h : qH) (H : Heap) (locs : List Loc) (ls : Array Slot) (nL : Nat) (L : List (Nat × qV)) (st : List qV) : Prop :=
  ((∀ r, n0 r ≤ qg_n h r) ∧ (∀ r i, i < n0 r → ρ r i = ρ0 r i)) ∧ (lv_has ls nL (L.map (fun q => (q.1, qc_v ρ q.2))) ∧ qk_L (qg_n h) L) ∧ qk_l (qg_n h) st ∧ (qa_R D sz ρ h s H ∧ qa_N s) ∧ va_S (fun q => sz ≤ q) s.heap H locs ∧ sz ≤ s.heap.size
def qB (cc : ByteArray) (ret : Option FieldType) (pc : Nat) : Option qV → Prop
  | none => decode cc pc = .ok (.return_, 1) ∧ ret = none
  | some (.inl x) => decode cc pc = .ok (.ireturn, 1) ∧ ∃ ty, ret = some ty ∧ narrow ty (.int x) = .int x
  | some (.inr (.inl _)) => decode cc pc = .ok (.lreturn, 1) ∧ ret = some .long
  | some (.inr (.inr _)) => decode cc pc = .ok (.areturn, 1) ∧ ∃ ty, ret = some ty ∧ ((∃ n, ty = .object n) ∨ ∃ t, ty = .array t)
def Vw (y : MethodName) (cc : ByteArray) (nL : Nat) (ret : Option FieldType) (R : Room) (mc ms : Nat) (n0 : Nat → Nat) (Post : Option qV → qH → Prop) (pc : Nat) (L : List (Nat × qV)) (st : List qV) (h : qH) (cells slots : Nat) : Prop :=
  ∀ (p : Program) (l : Launch) (e : Env) (s : State) (m : MethodId) (args : Array Value) (below : List Frame) (meth : Method) (c : Code) (Q : State → Prop) (D : va_G) (sz : Nat) (ρ0 ρ : Nat → Nat → Nat) (H : Heap) (locs : List Loc) (ls : Array Slot),
    qX y cc nL ret p s m args meth c → qS n0 ρ0 sz D s ρ h H locs ls nL L st →
    (∀ (v : Option qV) (h' : qH) (ρ' : Nat → Nat → Nat) (H' : Heap) (locs' : List Loc) (cells' slots' pc' : Nat) (ls' : Array Slot), Post v h' → cells' ≤ mc → slots' ≤ ms → qB cc ret pc' v → qS n0 ρ0 sz D s ρ' h' H' locs' ls' nL [] v.toList → W p l e R s m args below meth c H' locs' cells' slots' Q (F0 m pc' ls' (v.toList.map (qc_v ρ')))) →
    W p l e R s m args below meth c H locs cells slots Q (F0 m pc ls (st.map (qc_v ρ)))
/-- locals: by their numbers -/
def qlk : List (Nat × qV) → Nat → Option qV
  | [], _ => none
  | q :: L, j => if q.1 = j then some q.2 else qlk L j
def qst (L : List (Nat × qV)) (j : Nat) (v : qV) : List (Nat × qV) := (j, v) :: L.filter (fun q => !(q.1 == j) && !(q.1 + 1 == j && (qc_v (fun _ _ => 0) q.2).category == 2))
def qst2 (L : List (Nat × qV)) (j : Nat) (v : qV) : List (Nat × qV) := (j, v) :: L.filter (fun q => !(q.1 == j) && (!(q.1 == j + 1) && !(q.1 + 1 == j && (qc_v (fun _ _ => 0) q.2).category == 2)))
theorem qlk_mem : ∀ {L : List (Nat × qV)} {j : Nat} {v : qV}, qlk L j = some v → (j, v) ∈ L
  | q :: L, j, v, h => by
    unfold qlk at h
    split at h
    · rename_i e
      cases h
      subst e
      exact List.mem_cons_self
    · exact List.mem_cons_of_mem _ (qlk_mem h)
def qsub : List (Nat × qV) → List (Nat × qV) → Prop
  | [], _ => True
  | q :: t, L => qlk L q.1 = some q.2 ∧ qsub t L
theorem qsub_mem : ∀ {t L : List (Nat × qV)}, qsub t L → ∀ q ∈ t, q ∈ L
  | q :: t, L, h, x, hx => by
    rcases List.mem_cons.mp hx with rfl | hx
    · exact qlk_mem h.1
    · exact qsub_mem h.2 x hx
theorem qc_cat (ρ ρ' : Nat → Nat → Nat) (v : qV) : (qc_v ρ v).category = (qc_v ρ' v).category := by
  rcases v with x | x | o
  · rfl
  · rfl
  · cases o <;> rfl
theorem qst_map (ρ : Nat → Nat → Nat) (L : List (Nat × qV)) (j : Nat) (v : qV) : (qst L j v).map (fun q => (q.1, qc_v ρ q.2)) = (j, qc_v ρ v) :: (L.map (fun q => (q.1, qc_v ρ q.2))).filter (fun q => !(q.1 == j) && !(q.1 + 1 == j && q.2.category == 2)) := by
  unfold qst
  rw [List.map_cons, List.filter_map]
  congr 2
  apply List.filter_congr
  intro q _
  simp [qc_cat ρ (fun _ _ => 0)]
theorem qst2_map (ρ : Nat → Nat → Nat) (L : List (Nat × qV)) (j : Nat) (v : qV) : (qst2 L j v).map (fun q => (q.1, qc_v ρ q.2)) = (j, qc_v ρ v) :: (L.map (fun q => (q.1, qc_v ρ q.2))).filter (fun q => !(q.1 == j) && (!(q.1 == j + 1) && !(q.1 + 1 == j && q.2.category == 2))) := by
  unfold qst2
  rw [List.map_cons, List.filter_map]
  congr 2
  apply List.filter_congr
  intro q _
  simp [qc_cat ρ (fun _ _ => 0)]
theorem qst_cl {n : Nat → Nat} {L : List (Nat × qV)} {j : Nat} {v : qV} (hL : qk_L n L) (hv : qk_v n v) : qk_L n (qst L j v) := fun q hq => by
  rcases List.mem_cons.mp hq with rfl | hq
  · exact hv
  · exact hL q (List.mem_filter.mp hq).1
theorem qst2_cl {n : Nat → Nat} {L : List (Nat × qV)} {j : Nat} {v : qV} (hL : qk_L n L) (hv : qk_v n v) : qk_L n (qst2 L j v) := fun q hq => by
  rcases List.mem_cons.mp hq with rfl | hq
  · exact hv
  · exact hL q (List.mem_filter.mp hq).1
section QS
variable {n0 : Nat → Nat} {ρ0 : Nat → Nat → Nat} {sz : Nat} {D : va_G} {s : State} {ρ : Nat → Nat → Nat} {h : qH} {H : Heap} {locs : List Loc} {ls : Array Slot} {nL : Nat} {L : List (Nat × qV)} {st st' : List qV}
theorem qS.stk (S : qS n0 ρ0 sz D s ρ h H locs ls nL L st) (hst : qk_l (qg_n h) st → qk_l (qg_n h) st') : qS n0 ρ0 sz D s ρ h H locs ls nL L st' := ⟨S.1, S.2.1, hst S.2.2.1, S.2.2.2⟩
theorem qS.lk (S : qS n0 ρ0 sz D s ρ h H locs ls nL L st) {j : Nat} {v : qV} (hl : qlk L j = some v) : ls[j]? = some (.val (qc_v ρ v)) := S.2.1.1.2.2 (j, qc_v ρ v) (List.mem_map.mpr ⟨(j, v), qlk_mem hl, rfl⟩)
theorem qS.lkc (S : qS n0 ρ0 sz D s ρ h H locs ls nL L st) {j : Nat} {v : qV} (hl : qlk L j = some v) : qk_v (qg_n h) v := S.2.1.2 (j, v) (qlk_mem hl)
end QS
section VW
variable {y : MethodName} {cc : ByteArray} {nL : Nat} {ret : Option FieldType} {R : Room} {mc ms : Nat} {n0 : Nat → Nat} {Post : Option qV → qH → Prop} {pc : Nat} {L : List (Nat × qV)} {st : List qV} {h : qH} {cells slots : Nat}
/-- fewer locals -/
theorem V_loc {L' : List (Nat × qV)} (hs : qsub L' L) (k : Vw y cc nL ret R mc ms n0 Post pc L' st h cells slots) : Vw y cc nL ret R mc ms n0 Post pc L st h cells slots := by
  intro p l e s m args below meth c Q D sz ρ0 ρ H locs ls X S E
  refine k p l e s m args below meth c Q D sz ρ0 ρ H locs ls X ⟨S.1, ⟨⟨S.2.1.1.1, S.2.1.1.2.1, fun q hq => ?_⟩, fun q hq => S.2.1.2 q (qsub_mem hs q hq)⟩, S.2.2⟩ E
  obtain ⟨x, hx, rfl⟩ := List.mem_map.mp hq
  exact S.2.1.1.2.2 _ (List.mem_map.mpr ⟨x, qsub_mem hs x hx, rfl⟩)
/-- more cells, more slots -/
theorem V_wide {c' s' : Nat} (h1 : cells ≤ c') (h2 : slots ≤ s') (k : Vw y cc nL ret R mc ms n0 Post pc L st h c' s') : Vw y cc nL ret R mc ms n0 Post pc L st h cells slots := by
  intro p l e s m args below meth c Q D sz ρ0 ρ H locs ls X S E
  exact W.widen h1 h2 (k p l e s m args below meth c Q D sz ρ0 ρ H locs ls X S E)
/-- the end -/
theorem V_ret {v : Option qV} (hB : qB cc ret pc v) (hP : Post v h) (h1 : cells ≤ mc) (h2 : slots ≤ ms) : Vw y cc nL ret R mc ms n0 Post pc L v.toList h cells slots := by
  intro p l e s m args below meth c Q D sz ρ0 ρ H locs ls X S E
  exact E v h ρ H locs cells slots pc ls hP h1 h2 hB ⟨S.1, ⟨⟨S.2.1.1.1, S.2.1.1.2.1, fun q hq => by cases hq⟩, fun q hq => by cases hq⟩, S.2.2⟩
theorem V_iret {x : Int32} {ty : FieldType} (hd : decode cc pc = .ok (.ireturn, 1)) (hr : ret = some ty) (hn : narrow ty (.int x) = .int x) (hP : Post (some (.inl x)) h) (h1 : cells ≤ mc) (h2 : slots ≤ ms) : Vw y cc nL ret R mc ms n0 Post pc L [.inl x] h cells slots := V_ret (v := some (.inl x)) ⟨hd, ty, hr, hn⟩ hP h1 h2
theorem V_lret {x : Int64} (hd : decode cc pc = .ok (.lreturn, 1)) (hr : ret = some .long) (hP : Post (some (.inr (.inl x))) h) (h1 : cells ≤ mc) (h2 : slots ≤ ms) : Vw y cc nL ret R mc ms n0 Post pc L [.inr (.inl x)] h cells slots := V_ret (v := some (.inr (.inl x))) ⟨hd, hr⟩ hP h1 h2
theorem V_aret {x : Option (Nat × Nat)} {nm : String} (hd : decode cc pc = .ok (.areturn, 1)) (hr : ret = some (.object nm)) (hP : Post (some (.inr (.inr x))) h) (h1 : cells ≤ mc) (h2 : slots ≤ ms) : Vw y cc nL ret R mc ms n0 Post pc L [.inr (.inr x)] h cells slots := V_ret (v := some (.inr (.inr x))) ⟨hd, _, hr, Or.inl ⟨_, rfl⟩⟩ hP h1 h2
theorem V_vret (hd : decode cc pc = .ok (.return_, 1)) (hr : ret = none) (hP : Post none h) (h1 : cells ≤ mc) (h2 : slots ≤ ms) : Vw y cc nL ret R mc ms n0 Post pc L [] h cells slots := V_ret (v := none) ⟨hd, hr⟩ hP h1 h2
theorem V_iconst (n : Nat) {v : Int32} {i : Int} (hd : decode cc pc = .ok (.iconst i, 1)) (hn : pc + 1 = n) (hv : Int32.ofInt i = v) (k : Vw y cc nL ret R mc ms n0 Post n L ((.inl v) :: st) h cells slots) : Vw y cc nL ret R mc ms n0 Post pc L (st) h cells slots := by
  subst hn
  intro p l e s m args below meth c Q D sz ρ0 ρ H locs ls X S E
  exact lv_iconst X.1 X.2.1 hd hv (k p l e s m args below meth c Q D sz ρ0 ρ H locs ls X (S.stk (fun z => qk_c trivial z)) E)
theorem V_bipush (n : Nat) {v : Int32} {i : Int} (hd : decode cc pc = .ok (.bipush i, 2)) (hn : pc + 2 = n) (hv : (Int8.ofInt i).toInt32 = v) (k : Vw y cc nL ret R mc ms n0 Post n L ((.inl v) :: st) h cells slots) : Vw y cc nL ret R mc ms n0 Post pc L (st) h cells slots := by
  subst hn
  intro p l e s m args below meth c Q D sz ρ0 ρ H locs ls X S E
  exact lv_bipush X.1 X.2.1 hd hv (k p l e s m args below meth c Q D sz ρ0 ρ H locs ls X (S.stk (fun z => qk_c trivial z)) E)
theorem V_sipush (n : Nat) {v : Int32} {i : Int} (hd : decode cc pc = .ok (.sipush i, 3)) (hn : pc + 3 = n) (hv : (Int16.ofInt i).toInt32 = v) (k : Vw y cc nL ret R mc ms n0 Post n L ((.inl v) :: st) h cells slots) : Vw y cc nL ret R mc ms n0 Post pc L (st) h cells slots := by
  subst hn
  intro p l e s m args below meth c Q D sz ρ0 ρ H locs ls X S E
  exact lv_sipush X.1 X.2.1 hd hv (k p l e s m args below meth c Q D sz ρ0 ρ H locs ls X (S.stk (fun z => qk_c trivial z)) E)
theorem V_lconst (n : Nat) {v : Int64} {i : Fin 2} (hd : decode cc pc = .ok (.lconst i, 1)) (hn : pc + 1 = n) (hv : Int64.ofNat (i : Nat) = v) (k : Vw y cc nL ret R mc ms n0 Post n L ((.inr (.inl v)) :: st) h cells slots) : Vw y cc nL ret R mc ms n0 Post pc L (st) h cells slots := by
  subst hn
  intro p l e s m args below meth c Q D sz ρ0 ρ H locs ls X S E
  exact lv_lconst X.1 X.2.1 hd hv (k p l e s m args below meth c Q D sz ρ0 ρ H locs ls X (S.stk (fun z => qk_c trivial z)) E)
theorem V_null (n : Nat) (hd : decode cc pc = .ok (.aconst_null, 1)) (hn : pc + 1 = n) (k : Vw y cc nL ret R mc ms n0 Post n L ((.inr (.inr none)) :: st) h cells slots) : Vw y cc nL ret R mc ms n0 Post pc L (st) h cells slots := by
  subst hn
  intro p l e s m args below meth c Q D sz ρ0 ρ H locs ls X S E
  exact lv_null X.1 X.2.1 hd (k p l e s m args below meth c Q D sz ρ0 ρ H locs ls X (S.stk (fun z => qk_c (fun _ h => by cases h) z)) E)
theorem V_ldc (n : Nat) {v : Int32} {i : Nat} (hd : decode cc pc = .ok (.ldc i, 2)) (hn : pc + 2 = n) (hw : Cond.constant y.cls i v ∈ lw_tbl) (k : Vw y cc nL ret R mc ms n0 Post n L ((.inl v) :: st) h cells slots) : Vw y cc nL ret R mc ms n0 Post pc L (st) h cells slots := by
  subst hn
  intro p l e s m args below meth c Q D sz ρ0 ρ H locs ls X S E
  exact lv_ldc X.1 X.2.1 X.2.2.2.1 (X.2.2.2.2.1 _ (gd_in hw rfl)) hd (k p l e s m args below meth c Q D sz ρ0 ρ H locs ls X (S.stk (fun z => qk_c trivial z)) E)
theorem V_ldc2 (n : Nat) {v : Int64} {i : Nat} (hd : decode cc pc = .ok (.ldc2_w i, 3)) (hn : pc + 3 = n) (hw : Cond.constantLong y.cls i v ∈ lw_tbl) (k : Vw y cc nL ret R mc ms n0 Post n L ((.inr (.inl v)) :: st) h cells slots) : Vw y cc nL ret R mc ms n0 Post pc L (st) h cells slots := by
  subst hn
  intro p l e s m args below meth c Q D sz ρ0 ρ H locs ls X S E
  exact lv_ldc2 X.1 X.2.1 X.2.2.2.1 (X.2.2.2.2.1 _ (gd_in hw rfl)) hd (k p l e s m args below meth c Q D sz ρ0 ρ H locs ls X (S.stk (fun z => qk_c trivial z)) E)
theorem V_iload_n (n : Nat) {v : Int32} {i : Fin 4} (hd : decode cc pc = .ok (.iload_n i, 1)) (hn : pc + 1 = n) (hl : qlk L (i : Nat) = some (.inl v)) (k : Vw y cc nL ret R mc ms n0 Post n L ((.inl v) :: st) h cells slots) : Vw y cc nL ret R mc ms n0 Post pc L (st) h cells slots := by
  subst hn
  intro p l e s m args below meth c Q D sz ρ0 ρ H locs ls X S E
  exact lv_iload_n X.1 X.2.1 hd rfl (S.lk hl) (k p l e s m args below meth c Q D sz ρ0 ρ H locs ls X (S.stk (fun z => qk_c trivial z)) E)
theorem V_iload (n : Nat) {v : Int32} {i : Nat} (hd : decode cc pc = .ok (.iload i, 2)) (hn : pc + 2 = n) (hl : qlk L i = some (.inl v)) (k : Vw y cc nL ret R mc ms n0 Post n L ((.inl v) :: st) h cells slots) : Vw y cc nL ret R mc ms n0 Post pc L (st) h cells slots := by
  subst hn
  intro p l e s m args below meth c Q D sz ρ0 ρ H locs ls X S E
  exact lv_iload X.1 X.2.1 hd (S.lk hl) (k p l e s m args below meth c Q D sz ρ0 ρ H locs ls X (S.stk (fun z => qk_c trivial z)) E)
theorem V_lload_n (n : Nat) {v : Int64} {i : Fin 4} (hd : decode cc pc = .ok (.lload_n i, 1)) (hn : pc + 1 = n) (hl : qlk L (i : Nat) = some (.inr (.inl v))) (k : Vw y cc nL ret R mc ms n0 Post n L ((.inr (.inl v)) :: st) h cells slots) : Vw y cc nL ret R mc ms n0 Post pc L (st) h cells slots := by
  subst hn
  intro p l e s m args below meth c Q D sz ρ0 ρ H locs ls X S E
  exact lv_lload_n X.1 X.2.1 hd rfl (S.lk hl) (k p l e s m args below meth c Q D sz ρ0 ρ H locs ls X (S.stk (fun z => qk_c trivial z)) E)
theorem V_lload (n : Nat) {v : Int64} {i : Nat} (hd : decode cc pc = .ok (.lload i, 2)) (hn : pc + 2 = n) (hl : qlk L i = some (.inr (.inl v))) (k : Vw y cc nL ret R mc ms n0 Post n L ((.inr (.inl v)) :: st) h cells slots) : Vw y cc nL ret R mc ms n0 Post pc L (st) h cells slots := by
  subst hn
  intro p l e s m args below meth c Q D sz ρ0 ρ H locs ls X S E
  exact lv_lload X.1 X.2.1 hd (S.lk hl) (k p l e s m args below meth c Q D sz ρ0 ρ H locs ls X (S.stk (fun z => qk_c trivial z)) E)
theorem V_aload_n (n : Nat) {v : Option (Nat × Nat)} {i : Fin 4} (hd : decode cc pc = .ok (.aload_n i, 1)) (hn : pc + 1 = n) (hl : qlk L (i : Nat) = some (.inr (.inr v))) (k : Vw y cc nL ret R mc ms n0 Post n L ((.inr (.inr v)) :: st) h cells slots) : Vw y cc nL ret R mc ms n0 Post pc L (st) h cells slots := by
  subst hn
  intro p l e s m args below meth c Q D sz ρ0 ρ H locs ls X S E
  have kk := (k p l e s m args below meth c Q D sz ρ0 ρ H locs ls X (S.stk (fun z => qk_c (S.lkc hl) z)) E)
  cases v with
  | some a => exact lv_aload_n X.1 X.2.1 hd rfl (S.lk hl) kk
  | none => exact lv_aload_nN X.1 X.2.1 hd rfl (S.lk hl) kk
theorem V_aload (n : Nat) {v : Option (Nat × Nat)} {i : Nat} (hd : decode cc pc = .ok (.aload i, 2)) (hn : pc + 2 = n) (hl : qlk L i = some (.inr (.inr v))) (k : Vw y cc nL ret R mc ms n0 Post n L ((.inr (.inr v)) :: st) h cells slots) : Vw y cc nL ret R mc ms n0 Post pc L (st) h cells slots := by
  subst hn
  intro p l e s m args below meth c Q D sz ρ0 ρ H locs ls X S E
  have kk := (k p l e s m args below meth c Q D sz ρ0 ρ H locs ls X (S.stk (fun z => qk_c (S.lkc hl) z)) E)
  cases v with
  | some a => exact lv_aload X.1 X.2.1 hd (S.lk hl) kk
  | none => exact lv_aloadN X.1 X.2.1 hd (S.lk hl) kk
theorem V_istore_n (n : Nat) {v : Int32} {i : Fin 4} (hd : decode cc pc = .ok (.istore_n i, 1)) (hn : pc + 1 = n) (hi : (i : Nat) < nL) (k : Vw y cc nL ret R mc ms n0 Post n (qst L (i : Nat) (.inl v)) st h cells slots) : Vw y cc nL ret R mc ms n0 Post pc L ((.inl v) :: st) h cells slots := by
  subst hn
  intro p l e s m args below meth c Q D sz ρ0 ρ H locs ls X S E
  exact lv_istore_n X.1 X.2.1 hd rfl S.2.1.1 hi (qst_map ρ L (i : Nat) (.inl v)).symm (fun ls hl => k p l e s m args below meth c Q D sz ρ0 ρ H locs ls X ⟨S.1, ⟨hl, qst_cl S.2.1.2 trivial⟩, qk_t S.2.2.1, S.2.2.2⟩ E)
theorem V_istore (n : Nat) {v : Int32} {i : Nat} (hd : decode cc pc = .ok (.istore i, 2)) (hn : pc + 2 = n) (hi : i < nL) (k : Vw y cc nL ret R mc ms n0 Post n (qst L i (.inl v)) st h cells slots) : Vw y cc nL ret R mc ms n0 Post pc L ((.inl v) :: st) h cells slots := by
  subst hn
  intro p l e s m args below meth c Q D sz ρ0 ρ H locs ls X S E
  exact lv_istore X.1 X.2.1 hd S.2.1.1 hi (qst_map ρ L i (.inl v)).symm (fun ls hl => k p l e s m args below meth c Q D sz ρ0 ρ H locs ls X ⟨S.1, ⟨hl, qst_cl S.2.1.2 trivial⟩, qk_t S.2.2.1, S.2.2.2⟩ E)
theorem V_lstore_n (n : Nat) {v : Int64} {i : Fin 4} (hd : decode cc pc = .ok (.lstore_n i, 1)) (hn : pc + 1 = n) (hi : (i : Nat) + 1 < nL) (k : Vw y cc nL ret R mc ms n0 Post n (qst2 L (i : Nat) (.inr (.inl v))) st h cells slots) : Vw y cc nL ret R mc ms n0 Post pc L ((.inr (.inl v)) :: st) h cells slots := by
  subst hn
  intro p l e s m args below meth c Q D sz ρ0 ρ H locs ls X S E
  exact lv_lstore_n X.1 X.2.1 hd rfl S.2.1.1 hi (qst2_map ρ L (i : Nat) (.inr (.inl v))).symm (fun ls hl => k p l e s m args below meth c Q D sz ρ0 ρ H locs ls X ⟨S.1, ⟨hl, qst2_cl S.2.1.2 trivial⟩, qk_t S.2.2.1, S.2.2.2⟩ E)
theorem V_lstore (n : Nat) {v : Int64} {i : Nat} (hd : decode cc pc = .ok (.lstore i, 2)) (hn : pc + 2 = n) (hi : i + 1 < nL) (k : Vw y cc nL ret R mc ms n0 Post n (qst2 L i (.inr (.inl v))) st h cells slots) : Vw y cc nL ret R mc ms n0 Post pc L ((.inr (.inl v)) :: st) h cells slots := by
  subst hn
  intro p l e s m args below meth c Q D sz ρ0 ρ H locs ls X S E
  exact lv_lstore X.1 X.2.1 hd S.2.1.1 hi (qst2_map ρ L i (.inr (.inl v))).symm (fun ls hl => k p l e s m args below meth c Q D sz ρ0 ρ H locs ls X ⟨S.1, ⟨hl, qst2_cl S.2.1.2 trivial⟩, qk_t S.2.2.1, S.2.2.2⟩ E)
theorem V_astore_n (n : Nat) {v : Option (Nat × Nat)} {i : Fin 4} (hd : decode cc pc = .ok (.astore_n i, 1)) (hn : pc + 1 = n) (hi : (i : Nat) < nL) (k : Vw y cc nL ret R mc ms n0 Post n (qst L (i : Nat) (.inr (.inr v))) st h cells slots) : Vw y cc nL ret R mc ms n0 Post pc L ((.inr (.inr v)) :: st) h cells slots := by
  subst hn
  intro p l e s m args below meth c Q D sz ρ0 ρ H locs ls X S E
  have kk := fun ls hl => k p l e s m args below meth c Q D sz ρ0 ρ H locs ls X ⟨S.1, ⟨hl, qst_cl S.2.1.2 (qk_h S.2.2.1)⟩, qk_t S.2.2.1, S.2.2.2⟩ E
  cases v with
  | some a => exact lv_astore_n X.1 X.2.1 hd rfl S.2.1.1 hi (qst_map ρ L (i : Nat) (.inr (.inr (some a)))).symm kk
  | none => exact lv_astore_nN X.1 X.2.1 hd rfl S.2.1.1 hi (qst_map ρ L (i : Nat) (.inr (.inr none))).symm kk
theorem V_astore (n : Nat) {v : Option (Nat × Nat)} {i : Nat} (hd : decode cc pc = .ok (.astore i, 2)) (hn : pc + 2 = n) (hi : i < nL) (k : Vw y cc nL ret R mc ms n0 Post n (qst L i (.inr (.inr v))) st h cells slots) : Vw y cc nL ret R mc ms n0 Post pc L ((.inr (.inr v)) :: st) h cells slots := by
  subst hn
  intro p l e s m args below meth c Q D sz ρ0 ρ H locs ls X S E
  have kk := fun ls hl => k p l e s m args below meth c Q D sz ρ0 ρ H locs ls X ⟨S.1, ⟨hl, qst_cl S.2.1.2 (qk_h S.2.2.1)⟩, qk_t S.2.2.1, S.2.2.2⟩ E
  cases v with
  | some a => exact lv_astore X.1 X.2.1 hd S.2.1.1 hi (qst_map ρ L i (.inr (.inr (some a)))).symm kk
  | none => exact lv_astoreN X.1 X.2.1 hd S.2.1.1 hi (qst_map ρ L i (.inr (.inr none))).symm kk
theorem V_iinc (n : Nat) {i : Nat} {d : Int} {x v : Int32} (hd : decode cc pc = .ok (.iinc i d, 3)) (hn : pc + 3 = n) (hl : qlk L i = some (.inl x)) (hv : x + Int32.ofInt d = v) (hi : i < nL) (k : Vw y cc nL ret R mc ms n0 Post n (qst L i (.inl v)) st h cells slots) : Vw y cc nL ret R mc ms n0 Post pc L st h cells slots := by
  subst hn
  intro p l e s m args below meth c Q D sz ρ0 ρ H locs ls X S E
  obtain ⟨j, hj⟩ := List.getElem?_of_mem (List.mem_map.mpr ⟨(i, _), qlk_mem hl, rfl⟩ : ((i, qc_v ρ (.inl x)) : Nat × Value) ∈ L.map (fun q => (q.1, qc_v ρ q.2)))
  exact lv_iinc X.1 X.2.1 hd S.2.1.1 hj hv hi (qst_map ρ L i (.inl v)).symm (fun ls hl => k p l e s m args below meth c Q D sz ρ0 ρ H locs ls X ⟨S.1, ⟨hl, qst_cl S.2.1.2 trivial⟩, S.2.2⟩ E)
theorem V_iadd (n : Nat) {x z : Int32} (hd : decode cc pc = .ok (.iadd, 1)) (hn : pc + 1 = n) (k : Vw y cc nL ret R mc ms n0 Post n L ((.inl (x + z)) :: st) h cells slots) : Vw y cc nL ret R mc ms n0 Post pc L ((.inl z) :: (.inl x) :: st) h cells slots := by
  subst hn
  intro p l e s m args below meth c Q D sz ρ0 ρ H locs ls X S E
  exact lv_iadd X.1 X.2.1 hd (k p l e s m args below meth c Q D sz ρ0 ρ H locs ls X (S.stk (fun z => qk_c trivial (qk_t (qk_t z)))) E)
theorem V_isub (n : Nat) {x z : Int32} (hd : decode cc pc = .ok (.isub, 1)) (hn : pc + 1 = n) (k : Vw y cc nL ret R mc ms n0 Post n L ((.inl (x - z)) :: st) h cells slots) : Vw y cc nL ret R mc ms n0 Post pc L ((.inl z) :: (.inl x) :: st) h cells slots := by
  subst hn
  intro p l e s m args below meth c Q D sz ρ0 ρ H locs ls X S E
  exact lv_isub X.1 X.2.1 hd (k p l e s m args below meth c Q D sz ρ0 ρ H locs ls X (S.stk (fun z => qk_c trivial (qk_t (qk_t z)))) E)
theorem V_imul (n : Nat) {x z : Int32} (hd : decode cc pc = .ok (.imul, 1)) (hn : pc + 1 = n) (k : Vw y cc nL ret R mc ms n0 Post n L ((.inl (x * z)) :: st) h cells slots) : Vw y cc nL ret R mc ms n0 Post pc L ((.inl z) :: (.inl x) :: st) h cells slots := by
  subst hn
  intro p l e s m args below meth c Q D sz ρ0 ρ H locs ls X S E
  exact lv_imul X.1 X.2.1 hd (k p l e s m args below meth c Q D sz ρ0 ρ H locs ls X (S.stk (fun z => qk_c trivial (qk_t (qk_t z)))) E)
theorem V_iand (n : Nat) {x z : Int32} (hd : decode cc pc = .ok (.iand, 1)) (hn : pc + 1 = n) (k : Vw y cc nL ret R mc ms n0 Post n L ((.inl (x &&& z)) :: st) h cells slots) : Vw y cc nL ret R mc ms n0 Post pc L ((.inl z) :: (.inl x) :: st) h cells slots := by
  subst hn
  intro p l e s m args below meth c Q D sz ρ0 ρ H locs ls X S E
  exact lv_iand X.1 X.2.1 hd (k p l e s m args below meth c Q D sz ρ0 ρ H locs ls X (S.stk (fun z => qk_c trivial (qk_t (qk_t z)))) E)
theorem V_idiv (n : Nat) {x z : Int32} (hd : decode cc pc = .ok (.idiv, 1)) (hn : pc + 1 = n) (hz : ¬ z = 0) (k : Vw y cc nL ret R mc ms n0 Post n L ((.inl (x / z)) :: st) h cells slots) : Vw y cc nL ret R mc ms n0 Post pc L ((.inl z) :: (.inl x) :: st) h cells slots := by
  subst hn
  intro p l e s m args below meth c Q D sz ρ0 ρ H locs ls X S E
  exact lv_idiv X.1 X.2.1 hd hz (k p l e s m args below meth c Q D sz ρ0 ρ H locs ls X (S.stk (fun z => qk_c trivial (qk_t (qk_t z)))) E)
theorem V_irem (n : Nat) {x z : Int32} (hd : decode cc pc = .ok (.irem, 1)) (hn : pc + 1 = n) (hz : ¬ z = 0) (k : Vw y cc nL ret R mc ms n0 Post n L ((.inl (x - x / z * z)) :: st) h cells slots) : Vw y cc nL ret R mc ms n0 Post pc L ((.inl z) :: (.inl x) :: st) h cells slots := by
  subst hn
  intro p l e s m args below meth c Q D sz ρ0 ρ H locs ls X S E
  exact lv_irem X.1 X.2.1 hd hz (k p l e s m args below meth c Q D sz ρ0 ρ H locs ls X (S.stk (fun z => qk_c trivial (qk_t (qk_t z)))) E)
theorem V_ladd (n : Nat) {x z : Int64} (hd : decode cc pc = .ok (.ladd, 1)) (hn : pc + 1 = n) (k : Vw y cc nL ret R mc ms n0 Post n L ((.inr (.inl (x + z))) :: st) h cells slots) : Vw y cc nL ret R mc ms n0 Post pc L ((.inr (.inl z)) :: (.inr (.inl x)) :: st) h cells slots := by
  subst hn
  intro p l e s m args below meth c Q D sz ρ0 ρ H locs ls X S E
  exact lv_ladd X.1 X.2.1 hd (k p l e s m args below meth c Q D sz ρ0 ρ H locs ls X (S.stk (fun z => qk_c trivial (qk_t (qk_t z)))) E)
theorem V_lsub (n : Nat) {x z : Int64} (hd : decode cc pc = .ok (.lsub, 1)) (hn : pc + 1 = n) (k : Vw y cc nL ret R mc ms n0 Post n L ((.inr (.inl (x - z))) :: st) h cells slots) : Vw y cc nL ret R mc ms n0 Post pc L ((.inr (.inl z)) :: (.inr (.inl x)) :: st) h cells slots := by
  subst hn
  intro p l e s m args below meth c Q D sz ρ0 ρ H locs ls X S E
  exact lv_lsub X.1 X.2.1 hd (k p l e s m args below meth c Q D sz ρ0 ρ H locs ls X (S.stk (fun z => qk_c trivial (qk_t (qk_t z)))) E)
theorem V_lmul (n : Nat) {x z : Int64} (hd : decode cc pc = .ok (.lmul, 1)) (hn : pc + 1 = n) (k : Vw y cc nL ret R mc ms n0 Post n L ((.inr (.inl (x * z))) :: st) h cells slots) : Vw y cc nL ret R mc ms n0 Post pc L ((.inr (.inl z)) :: (.inr (.inl x)) :: st) h cells slots := by
  subst hn
  intro p l e s m args below meth c Q D sz ρ0 ρ H locs ls X S E
  exact lv_lmul X.1 X.2.1 hd (k p l e s m args below meth c Q D sz ρ0 ρ H locs ls X (S.stk (fun z => qk_c trivial (qk_t (qk_t z)))) E)
theorem V_land (n : Nat) {x z : Int64} (hd : decode cc pc = .ok (.land, 1)) (hn : pc + 1 = n) (k : Vw y cc nL ret R mc ms n0 Post n L ((.inr (.inl (x &&& z))) :: st) h cells slots) : Vw y cc nL ret R mc ms n0 Post pc L ((.inr (.inl z)) :: (.inr (.inl x)) :: st) h cells slots := by
  subst hn
  intro p l e s m args below meth c Q D sz ρ0 ρ H locs ls X S E
  exact lv_land X.1 X.2.1 hd (k p l e s m args below meth c Q D sz ρ0 ρ H locs ls X (S.stk (fun z => qk_c trivial (qk_t (qk_t z)))) E)
theorem V_lor (n : Nat) {x z : Int64} (hd : decode cc pc = .ok (.lor, 1)) (hn : pc + 1 = n) (k : Vw y cc nL ret R mc ms n0 Post n L ((.inr (.inl (x ||| z))) :: st) h cells slots) : Vw y cc nL ret R mc ms n0 Post pc L ((.inr (.inl z)) :: (.inr (.inl x)) :: st) h cells slots := by
  subst hn
  intro p l e s m args below meth c Q D sz ρ0 ρ H locs ls X S E
  exact lv_lor X.1 X.2.1 hd (k p l e s m args below meth c Q D sz ρ0 ρ H locs ls X (S.stk (fun z => qk_c trivial (qk_t (qk_t z)))) E)
theorem V_lxor (n : Nat) {x z : Int64} (hd : decode cc pc = .ok (.lxor, 1)) (hn : pc + 1 = n) (k : Vw y cc nL ret R mc ms n0 Post n L ((.inr (.inl (x ^^^ z))) :: st) h cells slots) : Vw y cc nL ret R mc ms n0 Post pc L ((.inr (.inl z)) :: (.inr (.inl x)) :: st) h cells slots := by
  subst hn
  intro p l e s m args below meth c Q D sz ρ0 ρ H locs ls X S E
  exact lv_lxor X.1 X.2.1 hd (k p l e s m args below meth c Q D sz ρ0 ρ H locs ls X (S.stk (fun z => qk_c trivial (qk_t (qk_t z)))) E)
theorem V_ldiv (n : Nat) {x z : Int64} (hd : decode cc pc = .ok (.ldiv, 1)) (hn : pc + 1 = n) (hz : ¬ z = 0) (k : Vw y cc nL ret R mc ms n0 Post n L ((.inr (.inl (x / z))) :: st) h cells slots) : Vw y cc nL ret R mc ms n0 Post pc L ((.inr (.inl z)) :: (.inr (.inl x)) :: st) h cells slots := by
  subst hn
  intro p l e s m args below meth c Q D sz ρ0 ρ H locs ls X S E
  exact lv_ldiv X.1 X.2.1 hd hz (k p l e s m args below meth c Q D sz ρ0 ρ H locs ls X (S.stk (fun z => qk_c trivial (qk_t (qk_t z)))) E)
theorem V_lrem (n : Nat) {x z : Int64} (hd : decode cc pc = .ok (.lrem, 1)) (hn : pc + 1 = n) (hz : ¬ z = 0) (k : Vw y cc nL ret R mc ms n0 Post n L ((.inr (.inl (x - x / z * z))) :: st) h cells slots) : Vw y cc nL ret R mc ms n0 Post pc L ((.inr (.inl z)) :: (.inr (.inl x)) :: st) h cells slots := by
  subst hn
  intro p l e s m args below meth c Q D sz ρ0 ρ H locs ls X S E
  exact lv_lrem X.1 X.2.1 hd hz (k p l e s m args below meth c Q D sz ρ0 ρ H locs ls X (S.stk (fun z => qk_c trivial (qk_t (qk_t z)))) E)
theorem V_ineg (n : Nat) {x : Int32} (hd : decode cc pc = .ok (.ineg, 1)) (hn : pc + 1 = n) (k : Vw y cc nL ret R mc ms n0 Post n L ((.inl (-x)) :: st) h cells slots) : Vw y cc nL ret R mc ms n0 Post pc L ((.inl x) :: st) h cells slots := by
  subst hn
  intro p l e s m args below meth c Q D sz ρ0 ρ H locs ls X S E
  exact lv_ineg X.1 X.2.1 hd (k p l e s m args below meth c Q D sz ρ0 ρ H locs ls X (S.stk (fun z => qk_c trivial (qk_t z))) E)
theorem V_lneg (n : Nat) {x : Int64} (hd : decode cc pc = .ok (.lneg, 1)) (hn : pc + 1 = n) (k : Vw y cc nL ret R mc ms n0 Post n L ((.inr (.inl (-x))) :: st) h cells slots) : Vw y cc nL ret R mc ms n0 Post pc L ((.inr (.inl x)) :: st) h cells slots := by
  subst hn
  intro p l e s m args below meth c Q D sz ρ0 ρ H locs ls X S E
  exact lv_lneg X.1 X.2.1 hd (k p l e s m args below meth c Q D sz ρ0 ρ H locs ls X (S.stk (fun z => qk_c trivial (qk_t z))) E)
theorem V_i2l (n : Nat) {x : Int32} (hd : decode cc pc = .ok (.i2l, 1)) (hn : pc + 1 = n) (k : Vw y cc nL ret R mc ms n0 Post n L ((.inr (.inl x.toInt64)) :: st) h cells slots) : Vw y cc nL ret R mc ms n0 Post pc L ((.inl x) :: st) h cells slots := by
  subst hn
  intro p l e s m args below meth c Q D sz ρ0 ρ H locs ls X S E
  exact lv_i2l X.1 X.2.1 hd rfl (k p l e s m args below meth c Q D sz ρ0 ρ H locs ls X (S.stk (fun z => qk_c trivial (qk_t z))) E)
theorem V_l2i (n : Nat) {x : Int64} (hd : decode cc pc = .ok (.l2i, 1)) (hn : pc + 1 = n) (k : Vw y cc nL ret R mc ms n0 Post n L ((.inl x.toInt32) :: st) h cells slots) : Vw y cc nL ret R mc ms n0 Post pc L ((.inr (.inl x)) :: st) h cells slots := by
  subst hn
  intro p l e s m args below meth c Q D sz ρ0 ρ H locs ls X S E
  exact lv_l2i X.1 X.2.1 hd rfl (k p l e s m args below meth c Q D sz ρ0 ρ H locs ls X (S.stk (fun z => qk_c trivial (qk_t z))) E)
theorem V_lshl (n : Nat) {x : Int64} {z : Int32} (hd : decode cc pc = .ok (.lshl, 1)) (hn : pc + 1 = n) (k : Vw y cc nL ret R mc ms n0 Post n L ((.inr (.inl (x <<< (z.toInt64 &&& 63)))) :: st) h cells slots) : Vw y cc nL ret R mc ms n0 Post pc L ((.inl z) :: (.inr (.inl x)) :: st) h cells slots := by
  subst hn
  intro p l e s m args below meth c Q D sz ρ0 ρ H locs ls X S E
  exact lv_lshl X.1 X.2.1 hd rfl (k p l e s m args below meth c Q D sz ρ0 ρ H locs ls X (S.stk (fun z => qk_c trivial (qk_t (qk_t z)))) E)
theorem V_lcmp (n : Nat) {x z : Int64} (hd : decode cc pc = .ok (.lcmp, 1)) (hn : pc + 1 = n) (k : Vw y cc nL ret R mc ms n0 Post n L ((.inl (lg_cmp x z)) :: st) h cells slots) : Vw y cc nL ret R mc ms n0 Post pc L ((.inr (.inl z)) :: (.inr (.inl x)) :: st) h cells slots := by
  subst hn
  intro p l e s m args below meth c Q D sz ρ0 ρ H locs ls X S E
  exact W.lcmp X.1 X.2.1 hd (k p l e s m args below meth c Q D sz ρ0 ρ H locs ls X (S.stk (fun z => qk_c trivial (qk_t (qk_t z)))) E)
theorem V_dupi (n : Nat) {x : Int32} (hd : decode cc pc = .ok (.dup, 1)) (hn : pc + 1 = n) (k : Vw y cc nL ret R mc ms n0 Post n L ((.inl x) :: (.inl x) :: st) h cells slots) : Vw y cc nL ret R mc ms n0 Post pc L ((.inl x) :: st) h cells slots := by
  subst hn
  intro p l e s m args below meth c Q D sz ρ0 ρ H locs ls X S E
  exact lv_dup X.1 X.2.1 hd rfl (k p l e s m args below meth c Q D sz ρ0 ρ H locs ls X (S.stk (fun z => qk_c trivial z)) E)
theorem V_dup (n : Nat) {v : Option (Nat × Nat)} (hd : decode cc pc = .ok (.dup, 1)) (hn : pc + 1 = n) (k : Vw y cc nL ret R mc ms n0 Post n L ((.inr (.inr v)) :: (.inr (.inr v)) :: st) h cells slots) : Vw y cc nL ret R mc ms n0 Post pc L ((.inr (.inr v)) :: st) h cells slots := by
  subst hn
  intro p l e s m args below meth c Q D sz ρ0 ρ H locs ls X S E
  exact lv_dup X.1 X.2.1 hd (by cases v <;> rfl) (k p l e s m args below meth c Q D sz ρ0 ρ H locs ls X (S.stk (fun z => qk_c (qk_h z) z)) E)
theorem V_pop (n : Nat) {x : Int32} (hd : decode cc pc = .ok (.pop, 1)) (hn : pc + 1 = n) (k : Vw y cc nL ret R mc ms n0 Post n L st h cells slots) : Vw y cc nL ret R mc ms n0 Post pc L (.inl x :: st) h cells slots := by
  subst hn
  intro p l e s m args below meth c Q D sz ρ0 ρ H locs ls X S E
  exact lv_pop X.1 X.2.1 hd rfl (k p l e s m args below meth c Q D sz ρ0 ρ H locs ls X (S.stk (fun z => qk_t z)) E)
theorem V_dup2 (n : Nat) {x : Int32} {v : Option (Nat × Nat)} (hd : decode cc pc = .ok (.dup2, 1)) (hn : pc + 1 = n) (k : Vw y cc nL ret R mc ms n0 Post n L (.inl x :: (.inr (.inr v)) :: .inl x :: (.inr (.inr v)) :: st) h cells slots) : Vw y cc nL ret R mc ms n0 Post pc L (.inl x :: (.inr (.inr v)) :: st) h cells slots := by
  subst hn
  intro p l e s m args below meth c Q D sz ρ0 ρ H locs ls X S E
  exact lv_dup2_11 X.1 X.2.1 hd rfl (by cases v <;> rfl) (k p l e s m args below meth c Q D sz ρ0 ρ H locs ls X (S.stk (fun z => qk_c trivial (qk_c (qk_h (qk_t z)) z))) E)
theorem V_if_eq (t n : Nat) {x : Int32} {off : Int} (hd : decode cc pc = .ok (.ifCond .eq off, 3)) (ht : (pc : Int) + off = (t : Int)) (hn : pc + 3 = n) (kt : x = 0 → Vw y cc nL ret R mc ms n0 Post t L st h cells slots) (kf : ¬ x = 0 → Vw y cc nL ret R mc ms n0 Post n L st h cells slots) : Vw y cc nL ret R mc ms n0 Post pc L (.inl x :: st) h cells slots := by
  subst hn
  intro p l e s m args below meth c Q D sz ρ0 ρ H locs ls X S E
  exact lv_if_eq X.1 X.2.1 hd ht (fun q => kt q p l e s m args below meth c Q D sz ρ0 ρ H locs ls X (S.stk (fun z => qk_t z)) E) (fun q => kf q p l e s m args below meth c Q D sz ρ0 ρ H locs ls X (S.stk (fun z => qk_t z)) E)
theorem V_icmp_eq (t n : Nat) {x z : Int32} {off : Int} (hd : decode cc pc = .ok (.if_icmp .eq off, 3)) (ht : (pc : Int) + off = (t : Int)) (hn : pc + 3 = n) (kt : x = z → Vw y cc nL ret R mc ms n0 Post t L st h cells slots) (kf : ¬ x = z → Vw y cc nL ret R mc ms n0 Post n L st h cells slots) : Vw y cc nL ret R mc ms n0 Post pc L (.inl z :: .inl x :: st) h cells slots := by
  subst hn
  intro p l e s m args below meth c Q D sz ρ0 ρ H locs ls X S E
  exact lv_icmp_eq X.1 X.2.1 hd ht (fun q => kt q p l e s m args below meth c Q D sz ρ0 ρ H locs ls X (S.stk (fun z => qk_t (qk_t z))) E) (fun q => kf q p l e s m args below meth c Q D sz ρ0 ρ H locs ls X (S.stk (fun z => qk_t (qk_t z))) E)
theorem V_if_ne (t n : Nat) {x : Int32} {off : Int} (hd : decode cc pc = .ok (.ifCond .ne off, 3)) (ht : (pc : Int) + off = (t : Int)) (hn : pc + 3 = n) (kt : ¬ x = 0 → Vw y cc nL ret R mc ms n0 Post t L st h cells slots) (kf : x = 0 → Vw y cc nL ret R mc ms n0 Post n L st h cells slots) : Vw y cc nL ret R mc ms n0 Post pc L (.inl x :: st) h cells slots := by
  subst hn
  intro p l e s m args below meth c Q D sz ρ0 ρ H locs ls X S E
  exact lv_if_ne X.1 X.2.1 hd ht (fun q => kt q p l e s m args below meth c Q D sz ρ0 ρ H locs ls X (S.stk (fun z => qk_t z)) E) (fun q => kf q p l e s m args below meth c Q D sz ρ0 ρ H locs ls X (S.stk (fun z => qk_t z)) E)
theorem V_icmp_ne (t n : Nat) {x z : Int32} {off : Int} (hd : decode cc pc = .ok (.if_icmp .ne off, 3)) (ht : (pc : Int) + off = (t : Int)) (hn : pc + 3 = n) (kt : ¬ x = z → Vw y cc nL ret R mc ms n0 Post t L st h cells slots) (kf : x = z → Vw y cc nL ret R mc ms n0 Post n L st h cells slots) : Vw y cc nL ret R mc ms n0 Post pc L (.inl z :: .inl x :: st) h cells slots := by
  subst hn
  intro p l e s m args below meth c Q D sz ρ0 ρ H locs ls X S E
  exact lv_icmp_ne X.1 X.2.1 hd ht (fun q => kt q p l e s m args below meth c Q D sz ρ0 ρ H locs ls X (S.stk (fun z => qk_t (qk_t z))) E) (fun q => kf q p l e s m args below meth c Q D sz ρ0 ρ H locs ls X (S.stk (fun z => qk_t (qk_t z))) E)
theorem V_if_lt (t n : Nat) {x : Int32} {off : Int} (hd : decode cc pc = .ok (.ifCond .lt off, 3)) (ht : (pc : Int) + off = (t : Int)) (hn : pc + 3 = n) (kt : x < 0 → Vw y cc nL ret R mc ms n0 Post t L st h cells slots) (kf : ¬ x < 0 → Vw y cc nL ret R mc ms n0 Post n L st h cells slots) : Vw y cc nL ret R mc ms n0 Post pc L (.inl x :: st) h cells slots := by
  subst hn
  intro p l e s m args below meth c Q D sz ρ0 ρ H locs ls X S E
  exact lv_if_lt X.1 X.2.1 hd ht (fun q => kt q p l e s m args below meth c Q D sz ρ0 ρ H locs ls X (S.stk (fun z => qk_t z)) E) (fun q => kf q p l e s m args below meth c Q D sz ρ0 ρ H locs ls X (S.stk (fun z => qk_t z)) E)
theorem V_icmp_lt (t n : Nat) {x z : Int32} {off : Int} (hd : decode cc pc = .ok (.if_icmp .lt off, 3)) (ht : (pc : Int) + off = (t : Int)) (hn : pc + 3 = n) (kt : x < z → Vw y cc nL ret R mc ms n0 Post t L st h cells slots) (kf : ¬ x < z → Vw y cc nL ret R mc ms n0 Post n L st h cells slots) : Vw y cc nL ret R mc ms n0 Post pc L (.inl z :: .inl x :: st) h cells slots := by
  subst hn
  intro p l e s m args below meth c Q D sz ρ0 ρ H locs ls X S E
  exact lv_icmp_lt X.1 X.2.1 hd ht (fun q => kt q p l e s m args below meth c Q D sz ρ0 ρ H locs ls X (S.stk (fun z => qk_t (qk_t z))) E) (fun q => kf q p l e s m args below meth c Q D sz ρ0 ρ H locs ls X (S.stk (fun z => qk_t (qk_t z))) E)
theorem V_if_ge (t n : Nat) {x : Int32} {off : Int} (hd : decode cc pc = .ok (.ifCond .ge off, 3)) (ht : (pc : Int) + off = (t : Int)) (hn : pc + 3 = n) (kt : 0 ≤ x → Vw y cc nL ret R mc ms n0 Post t L st h cells slots) (kf : ¬ 0 ≤ x → Vw y cc nL ret R mc ms n0 Post n L st h cells slots) : Vw y cc nL ret R mc ms n0 Post pc L (.inl x :: st) h cells slots := by
  subst hn
  intro p l e s m args below meth c Q D sz ρ0 ρ H locs ls X S E
  exact lv_if_ge X.1 X.2.1 hd ht (fun q => kt q p l e s m args below meth c Q D sz ρ0 ρ H locs ls X (S.stk (fun z => qk_t z)) E) (fun q => kf q p l e s m args below meth c Q D sz ρ0 ρ H locs ls X (S.stk (fun z => qk_t z)) E)
theorem V_icmp_ge (t n : Nat) {x z : Int32} {off : Int} (hd : decode cc pc = .ok (.if_icmp .ge off, 3)) (ht : (pc : Int) + off = (t : Int)) (hn : pc + 3 = n) (kt : z ≤ x → Vw y cc nL ret R mc ms n0 Post t L st h cells slots) (kf : ¬ z ≤ x → Vw y cc nL ret R mc ms n0 Post n L st h cells slots) : Vw y cc nL ret R mc ms n0 Post pc L (.inl z :: .inl x :: st) h cells slots := by
  subst hn
  intro p l e s m args below meth c Q D sz ρ0 ρ H locs ls X S E
  exact lv_icmp_ge X.1 X.2.1 hd ht (fun q => kt q p l e s m args below meth c Q D sz ρ0 ρ H locs ls X (S.stk (fun z => qk_t (qk_t z))) E) (fun q => kf q p l e s m args below meth c Q D sz ρ0 ρ H locs ls X (S.stk (fun z => qk_t (qk_t z))) E)
theorem V_if_gt (t n : Nat) {x : Int32} {off : Int} (hd : decode cc pc = .ok (.ifCond .gt off, 3)) (ht : (pc : Int) + off = (t : Int)) (hn : pc + 3 = n) (kt : 0 < x → Vw y cc nL ret R mc ms n0 Post t L st h cells slots) (kf : ¬ 0 < x → Vw y cc nL ret R mc ms n0 Post n L st h cells slots) : Vw y cc nL ret R mc ms n0 Post pc L (.inl x :: st) h cells slots := by
  subst hn
  intro p l e s m args below meth c Q D sz ρ0 ρ H locs ls X S E
  exact lv_if_gt X.1 X.2.1 hd ht (fun q => kt q p l e s m args below meth c Q D sz ρ0 ρ H locs ls X (S.stk (fun z => qk_t z)) E) (fun q => kf q p l e s m args below meth c Q D sz ρ0 ρ H locs ls X (S.stk (fun z => qk_t z)) E)
theorem V_icmp_gt (t n : Nat) {x z : Int32} {off : Int} (hd : decode cc pc = .ok (.if_icmp .gt off, 3)) (ht : (pc : Int) + off = (t : Int)) (hn : pc + 3 = n) (kt : z < x → Vw y cc nL ret R mc ms n0 Post t L st h cells slots) (kf : ¬ z < x → Vw y cc nL ret R mc ms n0 Post n L st h cells slots) : Vw y cc nL ret R mc ms n0 Post pc L (.inl z :: .inl x :: st) h cells slots := by
  subst hn
  intro p l e s m args below meth c Q D sz ρ0 ρ H locs ls X S E
  exact lv_icmp_gt X.1 X.2.1 hd ht (fun q => kt q p l e s m args below meth c Q D sz ρ0 ρ H locs ls X (S.stk (fun z => qk_t (qk_t z))) E) (fun q => kf q p l e s m args below meth c Q D sz ρ0 ρ H locs ls X (S.stk (fun z => qk_t (qk_t z))) E)
theorem V_if_le (t n : Nat) {x : Int32} {off : Int} (hd : decode cc pc = .ok (.ifCond .le off, 3)) (ht : (pc : Int) + off = (t : Int)) (hn : pc + 3 = n) (kt : x ≤ 0 → Vw y cc nL ret R mc ms n0 Post t L st h cells slots) (kf : ¬ x ≤ 0 → Vw y cc nL ret R mc ms n0 Post n L st h cells slots) : Vw y cc nL ret R mc ms n0 Post pc L (.inl x :: st) h cells slots := by
  subst hn
  intro p l e s m args below meth c Q D sz ρ0 ρ H locs ls X S E
  exact lv_if_le X.1 X.2.1 hd ht (fun q => kt q p l e s m args below meth c Q D sz ρ0 ρ H locs ls X (S.stk (fun z => qk_t z)) E) (fun q => kf q p l e s m args below meth c Q D sz ρ0 ρ H locs ls X (S.stk (fun z => qk_t z)) E)
theorem V_icmp_le (t n : Nat) {x z : Int32} {off : Int} (hd : decode cc pc = .ok (.if_icmp .le off, 3)) (ht : (pc : Int) + off = (t : Int)) (hn : pc + 3 = n) (kt : x ≤ z → Vw y cc nL ret R mc ms n0 Post t L st h cells slots) (kf : ¬ x ≤ z → Vw y cc nL ret R mc ms n0 Post n L st h cells slots) : Vw y cc nL ret R mc ms n0 Post pc L (.inl z :: .inl x :: st) h cells slots := by
  subst hn
  intro p l e s m args below meth c Q D sz ρ0 ρ H locs ls X S E
  exact lv_icmp_le X.1 X.2.1 hd ht (fun q => kt q p l e s m args below meth c Q D sz ρ0 ρ H locs ls X (S.stk (fun z => qk_t (qk_t z))) E) (fun q => kf q p l e s m args below meth c Q D sz ρ0 ρ H locs ls X (S.stk (fun z => qk_t (qk_t z))) E)
theorem V_goto (t : Nat) {off : Int} (hd : decode cc pc = .ok (.goto off, 3)) (ht : (pc : Int) + off = (t : Int)) (k : Vw y cc nL ret R mc ms n0 Post t L st h cells slots) : Vw y cc nL ret R mc ms n0 Post pc L st h cells slots := by
  intro p l e s m args below meth c Q D sz ρ0 ρ H locs ls X S E
  exact lv_goto X.1 X.2.1 hd ht (k p l e s m args below meth c Q D sz ρ0 ρ H locs ls X S E)
theorem V_ifnull (t n : Nat) {v : Option (Nat × Nat)} {off : Int} (hd : decode cc pc = .ok (.ifnull off, 3)) (ht : (pc : Int) + off = (t : Int)) (hn : pc + 3 = n) (kt : v = none → Vw y cc nL ret R mc ms n0 Post t L st h cells slots) (kf : ∀ a, v = some a → Vw y cc nL ret R mc ms n0 Post n L st h cells slots) : Vw y cc nL ret R mc ms n0 Post pc L ((.inr (.inr v)) :: st) h cells slots := by
  subst hn
  intro p l e s m args below meth c Q D sz ρ0 ρ H locs ls X S E
  cases v with
  | none => exact lv_ifnullN X.1 X.2.1 hd ht (kt rfl p l e s m args below meth c Q D sz ρ0 ρ H locs ls X (S.stk (fun z => qk_t z)) E)
  | some a => exact lv_ifnull X.1 X.2.1 hd (kf a rfl p l e s m args below meth c Q D sz ρ0 ρ H locs ls X (S.stk (fun z => qk_t z)) E)
theorem V_ifnonnull (t n : Nat) {v : Option (Nat × Nat)} {off : Int} (hd : decode cc pc = .ok (.ifnonnull off, 3)) (ht : (pc : Int) + off = (t : Int)) (hn : pc + 3 = n) (kt : v = none → Vw y cc nL ret R mc ms n0 Post n L st h cells slots) (kf : ∀ a, v = some a → Vw y cc nL ret R mc ms n0 Post t L st h cells slots) : Vw y cc nL ret R mc ms n0 Post pc L ((.inr (.inr v)) :: st) h cells slots := by
  subst hn
  intro p l e s m args below meth c Q D sz ρ0 ρ H locs ls X S E
  cases v with
  | none => exact lv_ifnonnullN X.1 X.2.1 hd (kt rfl p l e s m args below meth c Q D sz ρ0 ρ H locs ls X (S.stk (fun z => qk_t z)) E)
  | some a => exact lv_ifnonnull X.1 X.2.1 hd ht (kf a rfl p l e s m args below meth c Q D sz ρ0 ρ H locs ls X (S.stk (fun z => qk_t z)) E)
theorem V_tabIn (t : Nat) {dflt lo hi : Int} {offs : Array Int} {len : Nat} {x : Int32} {off : Int} (hd : decode cc pc = .ok (.tableswitch dflt lo hi offs, len)) (h1 : ¬ x.toInt < lo) (h2 : ¬ hi < x.toInt) (ho : offs[(x.toInt - lo).toNat]? = some off) (ht : (pc : Int) + off = (t : Int)) (k : Vw y cc nL ret R mc ms n0 Post t L st h cells slots) : Vw y cc nL ret R mc ms n0 Post pc L (.inl x :: st) h cells slots := by
  intro p l e s m args below meth c Q D sz ρ0 ρ H locs ls X S E
  exact lv_tableIn X.1 X.2.1 hd h1 h2 ho ht (k p l e s m args below meth c Q D sz ρ0 ρ H locs ls X (S.stk (fun z => qk_t z)) E)
theorem V_tabOut (t : Nat) {dflt lo hi : Int} {offs : Array Int} {len : Nat} {x : Int32} (hd : decode cc pc = .ok (.tableswitch dflt lo hi offs, len)) (h1 : x.toInt < lo ∨ hi < x.toInt) (ht : (pc : Int) + dflt = (t : Int)) (k : Vw y cc nL ret R mc ms n0 Post t L st h cells slots) : Vw y cc nL ret R mc ms n0 Post pc L (.inl x :: st) h cells slots := by
  intro p l e s m args below meth c Q D sz ρ0 ρ H locs ls X S E
  exact lv_tableOut X.1 X.2.1 hd h1 ht (k p l e s m args below meth c Q D sz ρ0 ρ H locs ls X (S.stk (fun z => qk_t z)) E)
end VW
