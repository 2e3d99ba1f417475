/-! Contracts and calls -/
def qQ (D : va_G) (sz : Nat) (ρ : Nat → Nat → Nat) (n : Nat → Nat) (Post : Option qV → qH → Prop) : Array Value → State → Outcome → State → Prop := fun _ st o t =>
  (∃ (v : Option qV) (h' : qH) (ρ' : Nat → Nat → Nat), o = .returned (v.map (qc_v ρ')) ∧ Post v h' ∧ qk_l (qg_n h') v.toList ∧ (∀ r, n r ≤ qg_n h' r) ∧ (∀ r i, i < n r → ρ' r i = ρ r i) ∧ qa_R D sz ρ' h' t t.heap) ∧ va_F (fun q => sz ≤ q) st t
abbrev qrm (d lo mc ms : Nat) : Room := { frames := d, cells := mc, slots := ms, locals := lo }
def qPc (D : va_G) (sz : Nat) (ρ : Nat → Nat → Nat) (as : List qV) (h : qH) : Array Value → State → Prop := va_Pc (as.map (qc_v ρ)) (fun U => qa_R D sz ρ h U U.heap ∧ qa_N U ∧ sz ≤ U.heap.size)
def qM (y : MethodName) (cc : ByteArray) (nL : Nat) (ret : Option FieldType) (d lo mc ms : Nat) (as : List qV) (h : qH) (Post : Option qV → qH → Prop) : Prop :=
  ∀ (l : Launch) (D : va_G) (sz : Nat) (ρ : Nat → Nat → Nat), qk_l (qg_n h) as → Met l y (.code y cc nL ret :: lw_good) (qrm d lo mc ms) (qPc D sz ρ as h) (qQ D sz ρ (qg_n h) Post) mc ms (fun q => sz ≤ q)
def qar : Nat → List qV → List (Nat × qV)
  | _, [] => []
  | i, v :: vs => (i, v) :: qar (if (qc_v (fun _ _ => 0) v).category = 2 then i + 2 else i + 1) vs
theorem qar_map (ρ : Nat → Nat → Nat) : ∀ (as : List qV) (i : Nat), (qar i as).map (fun q => (q.1, qc_v ρ q.2)) = lv_args i (as.map (qc_v ρ))
  | [], _ => rfl
  | v :: vs, i => by
    simp only [qar, List.map_cons, lv_args, qar_map ρ vs, qc_cat ρ (fun _ _ => 0)]
theorem qar_cl {n : Nat → Nat} : ∀ (as : List qV) (i : Nat), qk_l n as → qk_L n (qar i as)
  | [], _, _ => fun q h => by cases h
  | v :: vs, i, h => fun q hq => by
    unfold qar at hq
    rcases List.mem_cons.mp hq with rfl | hq
    · exact qk_h h
    · exact qar_cl vs _ (qk_t h) q hq
def qsl (as : List qV) : Nat := match as with
  | [] => 0
  | v :: vs => (if (qc_v (fun _ _ => 0) v).category = 2 then 2 else 1) + qsl vs
theorem qsl_len (ρ : Nat → Nat → Nat) : ∀ as : List qV, (lg_sl (as.map (qc_v ρ))).length = qsl as
  | [] => rfl
  | v :: vs => by
    have := qsl_len ρ vs
    simp only [lg_sl, List.map_cons, List.flatMap_cons, List.length_append, qsl] at this ⊢
    rw [this, qc_cat ρ (fun _ _ => 0)]
    split <;> rfl
theorem qMet_of {l : Launch} {y : MethodName} {ws ws' : List Cond} {rm : Room} {Pc : Array Value → State → Prop} {Qc : Array Value → State → Outcome → State → Prop} {mc ms : Nat} {free : Addr → Prop} {cc : ByteArray} {maxL : Nat} {ret : Option FieldType} (hy : plainFor y = true) (hw : ws = Cond.code y cc maxL ret :: ws')
    (body : ∀ p e s m args below meth c s₁, BodyLoose p l y (headSpec ws rm) cc maxL ret e s m args below meth c s₁ → c.maxLocals = maxL → Pc args s → W p l e (headSpec ws rm).room s m args below meth c s.heap [] 0 0 (MQ below Qc args s mc ms free) (entryFrame m args maxL)) : Met l y ws rm Pc Qc mc ms free := by
  refine MetFree.of_bodySF (code := cc) (maxLocals := maxL) (ret := ret) hy ?_ ?_
  · intro args s m h hn
    obtain ⟨meth, c, h1, h2, h3, h4, h5, h6, -, -⟩ := Cond.code_spec hn (atoms_spec (ws := ws) h _ (by rw [hw]; exact List.mem_cons_self))
    exact ⟨meth, c, h1, h2, h3, h4, h5, h6⟩
  · intro p e s m args below meth c s₁ B hml hP _
    obtain ⟨t, a1, o, b1, b2, b3⟩ := body p e s m args below meth c s₁ B hml hP s₁ (by rw [B.state]; rfl) (Stand.of_body B)
    exact ⟨t, o, a1, b1, b2, ⟨b3.1, b3.2⟩⟩
theorem qM.of {y : MethodName} {cc : ByteArray} {nL : Nat} {ret : Option FieldType} {d lo mc ms : Nat} {as : List qV} {h : qH} {Post : Option qV → qH → Prop} (hy : plainFor y = true) (hL : qsl as ≤ nL)
    (body : Vw y cc nL ret (qrm d lo mc ms) mc ms (qg_n h) Post 0 (qar 0 as) [] h 0 0) : qM y cc nL ret d lo mc ms as h Post := by
  intro l D sz ρ hcl
  refine qMet_of (cc := cc) (maxL := nL) (ret := ret) hy rfl ?_
  intro p e s m args below meth c s₁ B hml hv
  obtain ⟨rfl, hR, hN, hsz⟩ := hv
  have hts := atoms_spec (ws := .code y cc nL ret :: lw_good) B.pre
  have X : qX y cc nL ret p s m (as.map (qc_v ρ)).toArray meth c := ⟨B.exec, B.bytes, hml, findClass_of_methodNamed B.named, fun w hw => hts w (List.mem_cons_of_mem _ hw), B.returns, B.notSynchronized, (name_of_methodNamed B.named B.method).1⟩
  have hl := lv_entry (as.map (qc_v ρ)) (n := nL) (by rw [qsl_len]; exact hL)
  rw [lg_entry_eq]
  generalize (lg_sl (as.map (qc_v ρ)) ++ List.replicate (nL - (lg_sl (as.map (qc_v ρ))).length) Slot.unset).toArray = ls at hl ⊢
  rw [← qar_map] at hl
  refine body p l e s m (as.map (qc_v ρ)).toArray below meth c _ D sz ρ ρ s.heap [] ls X ⟨⟨fun _ => Nat.le_refl _, fun _ _ _ => rfl⟩, ⟨hl, qar_cl as 0 hcl⟩, qk_nil, ⟨hR, hN⟩, va_S.rf, hsz⟩ ?_
  intro v h' ρ' H' locs' cells' slots' pc' ls' hP h1 h2 hB S
  refine W.widen h1 h2 ?_
  have hlocks := B.notSynchronized
  have fin : ∀ t : State, t.heap = H' → s.WarmedH t.vm → qQ D sz ρ (qg_n h) Post (as.map (qc_v ρ)).toArray s (.returned (v.map (qc_v ρ'))) t := fun t ht hW =>
    ⟨⟨v, h', ρ', rfl, hP, S.2.2.1, S.1.1, S.1.2, by rw [ht]; exact S.2.2.2.1.1.moved hW.alike⟩, S.2.2.2.2.1.F ht⟩
  rcases v with _ | x | x | x
  · exact W.vret X.1 X.2.1 (B.returns.trans hB.2) fin S.2.2.2.2.1.2.2 hB.1
  · obtain ⟨hd, ty, hr, hn⟩ := hB
    exact W.zret X.1 X.2.1 (B.returns.trans hr) hn fin S.2.2.2.2.1.2.2 hd
  · exact W.lret X.1 X.2.1 (B.returns.trans hB.2) fin S.2.2.2.2.1.2.2 hB.1
  · obtain ⟨hd, ty, hr, hn⟩ := hB
    refine W.aret X.1 X.2.1 (B.returns.trans hr) hn ?_ fin S.2.2.2.2.1.2.2 hd
    cases x with
    | none => exact Or.inl rfl
    | some a => exact Or.inr ⟨_, rfl⟩
/-- the kinds of ends -/
def pI (f : Int32 → qH → Prop) : Option qV → qH → Prop := fun v h => ∃ x, v = some (.inl x) ∧ f x h
def pL (f : Int64 → qH → Prop) : Option qV → qH → Prop := fun v h => ∃ x, v = some (.inr (.inl x)) ∧ f x h
def pR (f : Option (Nat × Nat) → qH → Prop) : Option qV → qH → Prop := fun v h => ∃ x, v = some (.inr (.inr x)) ∧ f x h
def pV (f : qH → Prop) : Option qV → qH → Prop := fun v h => v = none ∧ f h
theorem gd_g {ws : List Cond} (h : ∀ w ∈ ws, w ∈ lw_good) : GoodIn lw_good ws := fun w hw => gd_ok w (h w hw)
/-- what the tables say of a call site -/
def qcV (own : String) (idx : Nat) (y : MethodName) (cc : ByteArray) (nL : Nat) (ret : Option FieldType) (n : Nat) : Prop :=
  (Cond.methodLink own idx y ∈ lw_tbl ∧ Cond.instanceMethod y ∈ lw_tbl ∧ Cond.selects y.cls y y ∈ lw_tbl ∧ Cond.initialized y.cls ∈ lw_tbl ∧ Cond.code y cc nL ret ∈ lw_tbl) ∧ (y.cls ≠ "java/lang/invoke/MethodHandle" ∧ y.cls ≠ "java/lang/invoke/VarHandle" ∧ (parseMethodDescriptor y.desc).map (fun d => d.parameters.length) = some n)
def qcS (own : String) (idx : Nat) (y : MethodName) (cc : ByteArray) (nL : Nat) (ret : Option FieldType) (n : Nat) : Prop :=
  (Cond.methodLink own idx y ∈ lw_tbl ∧ Cond.static y ∈ lw_tbl ∧ Cond.initialized y.cls ∈ lw_tbl ∧ Cond.code y cc nL ret ∈ lw_tbl) ∧ (y.cls ≠ "java/lang/invoke/MethodHandle" ∧ y.cls ≠ "java/lang/invoke/VarHandle" ∧ (parseMethodDescriptor y.desc).map (fun d => d.parameters.length) = some n)
def qcI (own : String) (idx : Nat) (y : MethodName) (cc : ByteArray) (nL : Nat) (n : Nat) : Prop :=
  (Cond.methodLink own idx y ∈ lw_tbl ∧ Cond.instanceMethod y ∈ lw_tbl ∧ Cond.initialized y.cls ∈ lw_tbl ∧ Cond.code y cc nL none ∈ lw_tbl) ∧ (y.cls ≠ "java/lang/invoke/MethodHandle" ∧ y.cls ≠ "java/lang/invoke/VarHandle" ∧ (parseMethodDescriptor y.desc).map (fun d => d.parameters.length) = some n) ∧ y.name = "<init>"
def qcN (own : String) (idx : Nat) (y : MethodName) (cc : ByteArray) (nL : Nat) (n : Nat) : Prop :=
  ((∀ s, qa_N s → va_Nw (.methodLinkNest own idx y "QuotaMeter") s) ∧ Cond.instanceMethod y ∈ lw_tbl ∧ Cond.initialized y.cls ∈ lw_tbl ∧ Cond.code y cc nL none ∈ lw_tbl) ∧ (y.cls ≠ "java/lang/invoke/MethodHandle" ∧ y.cls ≠ "java/lang/invoke/VarHandle" ∧ (parseMethodDescriptor y.desc).map (fun d => d.parameters.length) = some n) ∧ y.name = "<init>"
theorem qPc_blind {D : va_G} {sz : Nat} {ρ : Nat → Nat → Nat} {as : List qV} {h : qH} : FrameBlind (qPc D sz ρ as h) := fun a U g mk q => ⟨q.1, q.2.1.moved (u := U) (U := U.calling g mk a) (Vm.Alike.refl U.vm), q.2.2.1.same rfl, q.2.2.2⟩
theorem qPc_pre {n0 : Nat → Nat} {ρ0 : Nat → Nat → Nat} {sz : Nat} {D : va_G} {s : State} {ρ : Nat → Nat → Nat} {h : qH} {H : Heap} {locs : List Loc} {ls : Array Slot} {nL : Nat} {L : List (Nat × qV)} {st as : List qV} (S : qS n0 ρ0 sz D s ρ h H locs ls nL L st) : ∀ U : State, U.heap = H → s.WarmedH U.vm → qPc D sz ρ as h (as.map (qc_v ρ)).toArray U := fun U hU hW => ⟨rfl, by rw [hU]; exact S.2.2.2.1.1.moved hW.alike, S.2.2.2.1.2.warm hW, by rw [hU]; exact S.2.2.2.1.1.2.2.2.2.2.1⟩
section CALL
variable {y : MethodName} {cc : ByteArray} {nL : Nat} {ret : Option FieldType} {R : Room} {mc ms : Nat} {n0 : Nat → Nat} {Post : Option qV → qH → Prop} {pc : Nat} {L : List (Nat × qV)} {st : List qV} {h : qH} {cells slots : Nat}
variable {p : Program} {l : Launch} {e : Env} {s : State} {m : MethodId} {args : Array Value} {below : List Frame} {meth : Method} {c0 : Code} {Q : State → Prop} {D : va_G} {sz : Nat} {ρ0 ρ : Nat → Nat → Nat} {H : Heap} {locs : List Loc} {ls : Array Slot}
/-- behind a call -/
theorem qw_back {mc2 ms2 : Nat} {st0 : List Value} {rest : List qV} {Post2 : Option qV → qH → Prop} {a : Array Value} (X : qX y cc nL ret p s m args meth c0) (S : qS n0 ρ0 sz D s ρ h H locs ls nL L st) (hrest : qk_l (qg_n h) rest)
    (run : va_Run p l e R s m args below meth c0 H locs cells slots mc2 ms2 (F0 m pc ls st0) (rest.map (qc_v ρ)) (qQ D sz ρ (qg_n h) Post2 a) (fun q => sz ≤ q))
    (E : ∀ (v : Option qV) (h' : qH) (ρ' : Nat → Nat → Nat) (H' : Heap) (locs' : List Loc) (cells' slots' pc' : Nat) (ls' : Array Slot), Post v h' → cells' ≤ mc → slots' ≤ ms → qB cc ret pc' v → qS n0 ρ0 sz D s ρ' h' H' locs' ls' nL [] v.toList → W p l e R s m args below meth c0 H' locs' cells' slots' Q (F0 m pc' ls' (v.toList.map (qc_v ρ'))))
    (K : ∀ v h', Post2 v h' → (∀ r, qg_n h r ≤ qg_n h' r) → Vw y cc nL ret R mc ms n0 Post (pc + 3) L (v.toList ++ rest) h' (cells + mc2) (slots + ms2)) :
    W p l e R s m args below meth c0 H locs cells slots Q (F0 m pc ls st0) := by
  intro T hT Xs
  obtain ⟨v, st₀, t, T', Lo, h0, X', hL, e1, e2, ⟨⟨v', h', ρ', hv, hP, hkv, hle, hρ, hR⟩, hz, hk⟩, go⟩ := run T hT Xs
  cases hv
  rw [h0] at hz hk
  have hvm : s.vm.Alike t.vm := by rw [← e2]; exact X'.warmed.alike
  have SS : va_S (fun q => sz ≤ q) s.heap T'.heap (locs ++ Lo) := ⟨Nat.le_trans S.2.2.2.2.1.1 (by rw [e1]; exact hz), fun q h1 h2 => by rw [e1, hk q (Nat.lt_of_lt_of_le h1 S.2.2.2.2.1.1) h2]; exact S.2.2.2.2.1.2.1 q h1 h2, fun q hq => by
      rcases List.mem_append.mp hq with z | z
      · exact S.2.2.2.2.1.2.2 q z
      · exact hL q z⟩
  have kk := K v' h' hP hle p l e s m args below meth c0 Q D sz ρ0 ρ' T'.heap (locs ++ Lo) ls X ⟨⟨fun r => Nat.le_trans (S.1.1 r) (hle r), fun r i hi => (hρ r i (Nat.lt_of_lt_of_le hi (S.1.1 r))).trans (S.1.2 r i hi)⟩, ⟨by rw [qc_Lm hρ S.2.1.2]; exact S.2.1.1, qk_Lm hle S.2.1.2⟩, fun w hw => by
      rcases List.mem_append.mp hw with z | z
      · exact hkv w z
      · exact qk_vm hle (hrest w z), ⟨by rw [e1]; exact hR.moved hvm.symm, S.2.2.2.1.2⟩, SS, S.2.2.2.2.2⟩ E
  obtain ⟨t2, a1, b1⟩ := kk T' rfl X'
  refine ⟨t2, go t2 ?_, b1⟩
  have e9 : (v'.toList ++ rest).map (qc_v ρ') = (v'.map (qc_v ρ')).toList ++ rest.map (qc_v ρ) := by
    rw [List.map_append, qc_lm hρ hrest]
    cases v' <;> rfl
  rw [e9] at a1
  exact a1
theorem qcat_sum (st : List qV) : ((st.map (qc_v ρ)).map fun v => v.category).sum = ((st.map (qc_v (fun _ _ => 0))).map fun v => v.category).sum := by
  have e : ((st.map (qc_v ρ)).map fun v => v.category) = ((st.map (qc_v (fun _ _ => 0))).map fun v => v.category) := by
    rw [List.map_map, List.map_map]
    exact List.map_congr_left (fun v _ => qc_cat _ _ v)
  rw [e]
theorem qk_app {n : Nat → Nat} {a b : List qV} (h : qk_l n (a ++ b)) : qk_l n a ∧ qk_l n b := ⟨fun v hv => h v (List.mem_append_left _ hv), fun v hv => h v (List.mem_append_right _ hv)⟩
theorem qk_rev {n : Nat → Nat} {a : List qV} (h : qk_l n a.reverse) : qk_l n a := fun v hv => h v (List.mem_reverse.mpr hv)
end CALL
section CALLV
variable {y : MethodName} {cc : ByteArray} {nL : Nat} {ret : Option FieldType} {R : Room} {mc ms : Nat} {n0 : Nat → Nat} {Post : Option qV → qH → Prop} {pc : Nat} {L : List (Nat × qV)} {h : qH} {cells slots : Nat}
variable {y2 : MethodName} {cc2 : ByteArray} {nL2 : Nat} {ret2 : Option FieldType} {d2 lo2 mc2 ms2 idx : Nat} {rest : List qV} {Post2 : Option qV → qH → Prop}
theorem V_cVg {r i c : Nat} (as : List qV) (hs : qcV y.cls idx y2 cc2 nL2 ret2 as.length) (hk : rg_k r = .inl c) (hC : rg_C c = y2.cls) (hr : r ≠ 0) (hd : decode cc pc = .ok (.invokevirtual idx, 3)) (hR : d2 + 1 ≤ R.frames ∧ 8 + (nL2 + 11) + lo2 ≤ R.locals) (hW : ((rest.map (qc_v (fun _ _ => 0))).map fun v => v.category).sum ≤ 8) (hf : cells + mc2 ≤ R.cells ∧ slots + ms2 ≤ R.slots)
    (M : qM y2 cc2 nL2 ret2 d2 lo2 mc2 ms2 (qv_r (some (r, i)) :: as) h Post2)
    (K : ∀ v h', Post2 v h' → (∀ r, qg_n h r ≤ qg_n h' r) → Vw y cc nL ret R mc ms n0 Post (pc + 3) L (v.toList ++ rest) h' (cells + mc2) (slots + ms2)) :
    Vw y cc nL ret R mc ms n0 Post pc L (as.reverse ++ qv_r (some (r, i)) :: rest) h cells slots := by
  intro p l e s m args below meth c0 Q D sz ρ0 ρ H locs ls X S E
  obtain ⟨k1, k2⟩ := qk_app S.2.2.1
  have hi : i < qg_n h r := qk_h k2 (r, i) rfl
  obtain ⟨hc9, cell, g1, g2, g3, -⟩ := (qa_at_o hk).mp (S.2.2.2.1.1.1 r i hi hr).1
  have hcls := (S.2.2.2.1.1.2.2.2.2.1.1.1 c _ (rg_cl c hc9)).2
  obtain ⟨⟨w1, w2, w3, w4, w5⟩, hd2⟩ := hs
  refine qw_back X S (qk_t k2) (va_runV (As := as.map (qc_v ρ)) (C := y2.cls) (b := ρ r i) (n := as.length) ⟨X.1, X.2.1, X.2.2.1, X.2.2.2.1, X.2.2.2.2.1⟩ (M l D sz ρ (qk_c (qk_h k2) (qk_rev k1))) (cwV as.length X.2.2.2.2.1 (gd_g (fun w hw => ?_)) rfl rfl rfl ⟨rfl, hd2⟩ hR) ⟨qPc_blind, ⟨cell, g1, by rw [g3]; rfl, by rw [g2, ← hC]; exact hcls.1⟩, qPc_pre S⟩ rfl (by simp) S.2.1.1.1 (by simp [qc_v, qc_o, va_rf]) (lv_room (by rw [qcat_sum]; exact hW)) hd hf) E K
  rcases List.mem_append.mp hw with z | z
  · simp only [List.mem_cons, List.not_mem_nil, or_false] at z
    rcases z with rfl | rfl | rfl | rfl
    · exact gd_in w1 rfl
    · exact gd_in w2 rfl
    · exact gd_in w3 rfl
    · exact gd_in w4 rfl
  · rcases List.mem_cons.mp z with rfl | z
    · exact gd_in w5 rfl
    · exact z
theorem V_cSg (as : List qV) (hs : qcS y.cls idx y2 cc2 nL2 ret2 as.length) (hd : decode cc pc = .ok (.invokestatic idx, 3)) (hR : d2 + 1 ≤ R.frames ∧ 8 + (nL2 + 11) + lo2 ≤ R.locals) (hW : ((rest.map (qc_v (fun _ _ => 0))).map fun v => v.category).sum ≤ 8) (hf : cells + mc2 ≤ R.cells ∧ slots + ms2 ≤ R.slots)
    (M : qM y2 cc2 nL2 ret2 d2 lo2 mc2 ms2 as h Post2)
    (K : ∀ v h', Post2 v h' → (∀ r, qg_n h r ≤ qg_n h' r) → Vw y cc nL ret R mc ms n0 Post (pc + 3) L (v.toList ++ rest) h' (cells + mc2) (slots + ms2)) :
    Vw y cc nL ret R mc ms n0 Post pc L (as.reverse ++ rest) h cells slots := by
  intro p l e s m args below meth c0 Q D sz ρ0 ρ H locs ls X S E
  obtain ⟨k1, k2⟩ := qk_app S.2.2.1
  obtain ⟨⟨w1, w2, w4, w5⟩, hd2⟩ := hs
  refine qw_back X S k2 (va_runS (As := as.map (qc_v ρ)) (n := as.length) ⟨X.1, X.2.1, X.2.2.1, X.2.2.2.1, X.2.2.2.2.1⟩ (M l D sz ρ (qk_rev k1)) (va_cwS as.length X.2.2.2.2.1 (gd_g (fun w hw => ?_)) rfl rfl rfl hd2 hR) ⟨qPc_blind, qPc_pre S⟩ rfl (by simp) S.2.1.1.1 (by simp) (lv_room (by rw [qcat_sum]; exact hW)) hd hf) E K
  rcases List.mem_append.mp hw with z | z
  · simp only [List.mem_cons, List.not_mem_nil, or_false] at z
    rcases z with rfl | rfl | rfl
    · exact gd_in w1 rfl
    · exact gd_in w2 rfl
    · exact gd_in w4 rfl
  · rcases List.mem_cons.mp z with rfl | z
    · exact gd_in w5 rfl
    · exact z
theorem V_cIg {r i : Nat} (as : List qV) (hs : qcI y.cls idx y2 cc2 nL2 as.length) (hd : decode cc pc = .ok (.invokespecial idx, 3)) (hR : d2 + 1 ≤ R.frames ∧ 8 + (nL2 + 11) + lo2 ≤ R.locals) (hW : ((rest.map (qc_v (fun _ _ => 0))).map fun v => v.category).sum ≤ 8) (hf : cells + mc2 ≤ R.cells ∧ slots + ms2 ≤ R.slots)
    (M : qM y2 cc2 nL2 none d2 lo2 mc2 ms2 (qv_r (some (r, i)) :: as) h Post2)
    (K : ∀ v h', Post2 v h' → (∀ r, qg_n h r ≤ qg_n h' r) → Vw y cc nL ret R mc ms n0 Post (pc + 3) L (v.toList ++ rest) h' (cells + mc2) (slots + ms2)) :
    Vw y cc nL ret R mc ms n0 Post pc L (as.reverse ++ qv_r (some (r, i)) :: rest) h cells slots := by
  intro p l e s m args below meth c0 Q D sz ρ0 ρ H locs ls X S E
  obtain ⟨k1, k2⟩ := qk_app S.2.2.1
  obtain ⟨⟨w1, w2, w4, w5⟩, hd2, hnm⟩ := hs
  refine qw_back X S (qk_t k2) (va_runI (As := as.map (qc_v ρ)) (b := ρ r i) (n := as.length) ⟨X.1, X.2.1, X.2.2.1, X.2.2.2.1, X.2.2.2.2.1⟩ (M l D sz ρ (qk_c (qk_h k2) (qk_rev k1))) (cwI as.length X.2.2.2.2.1 (gd_g (fun w hw => ?_)) rfl rfl rfl (X.2.2.2.2.1 _ (gd_in w4 rfl)) (X.2.2.2.2.1 _ (gd_in w1 rfl)) (X.2.2.2.2.1 _ (gd_in w2 rfl)) hnm hd2 hR) ⟨qPc_blind, qPc_pre (as := qv_r (some (r, i)) :: as) S⟩ rfl (by simp) S.2.1.1.1 (by simp [qc_v, qc_o, va_rf]) (lv_room (by rw [qcat_sum]; exact hW)) hd hf) E K
  rcases List.mem_cons.mp hw with rfl | z
  · exact gd_in w5 rfl
  · exact z
theorem V_cNg {r i : Nat} (as : List qV) (hs : qcN y.cls idx y2 cc2 nL2 as.length) (hd : decode cc pc = .ok (.invokespecial idx, 3)) (hR : d2 + 1 ≤ R.frames ∧ 8 + (nL2 + 11) + lo2 ≤ R.locals) (hW : ((rest.map (qc_v (fun _ _ => 0))).map fun v => v.category).sum ≤ 8) (hf : cells + mc2 ≤ R.cells ∧ slots + ms2 ≤ R.slots)
    (M : qM y2 cc2 nL2 none d2 lo2 mc2 ms2 (qv_r (some (r, i)) :: as) h Post2)
    (K : ∀ v h', Post2 v h' → (∀ r, qg_n h r ≤ qg_n h' r) → Vw y cc nL ret R mc ms n0 Post (pc + 3) L (v.toList ++ rest) h' (cells + mc2) (slots + ms2)) :
    Vw y cc nL ret R mc ms n0 Post pc L (as.reverse ++ qv_r (some (r, i)) :: rest) h cells slots := by
  intro p l e s m args below meth c0 Q D sz ρ0 ρ H locs ls X S E
  obtain ⟨k1, k2⟩ := qk_app S.2.2.1
  obtain ⟨⟨w1, w2, w4, w5⟩, hd2, hnm⟩ := hs
  refine qw_back X S (qk_t k2) (va_runIN (As := as.map (qc_v ρ)) (b := ρ r i) (n := as.length) ⟨X.1, X.2.1, X.2.2.1, X.2.2.2.1, X.2.2.2.2.1⟩ (M l D sz ρ (qk_c (qk_h k2) (qk_rev k1))) ⟨va_cnB as.length X.2.2.2.2.1 (gd_g (fun w hw => ?_)) rfl rfl rfl (w1 s S.2.2.2.1.2) (X.2.2.2.2.1 _ (gd_in w4 rfl)) hd2 hR, hnm, X.2.2.2.2.1 _ (gd_in w2 rfl)⟩ ⟨qPc_blind, qPc_pre (as := qv_r (some (r, i)) :: as) S⟩ rfl (by simp) S.2.1.1.1 (by simp [qc_v, qc_o, va_rf]) (lv_room (by rw [qcat_sum]; exact hW)) hd hf) E K
  rcases List.mem_cons.mp hw with rfl | z
  · exact gd_in w5 rfl
  · exact z
theorem V_cV0i (n : Nat) {r i c : Nat} {f : Int32 → qH → Prop} (M : qM y2 cc2 nL2 ret2 d2 lo2 mc2 ms2 ((.inr (.inr (some (r, i)))) :: []) h (pI f)) (hs : qcV y.cls idx y2 cc2 nL2 ret2 0) (hk : rg_k r = .inl c) (hC : rg_C c = y2.cls) (hr : r ≠ 0) (hd : decode cc pc = .ok (.invokevirtual idx, 3)) (hn : pc + 3 = n) (hR : d2 + 1 ≤ R.frames ∧ 8 + (nL2 + 11) + lo2 ≤ R.locals) (hW : ((rest.map (qc_v (fun _ _ => 0))).map fun v => v.category).sum ≤ 8) (hf : cells + mc2 ≤ R.cells ∧ slots + ms2 ≤ R.slots) (K : ∀ (x : Int32) (h' : qH), f x h' → (∀ r, qg_n h r ≤ qg_n h' r) → Vw y cc nL ret R mc ms n0 Post n L (.inl x :: rest) h' (cells + mc2) (slots + ms2)) : Vw y cc nL ret R mc ms n0 Post pc L ((.inr (.inr (some (r, i)))) :: rest) h cells slots := by
  subst hn
  exact V_cVg [] hs hk hC hr hd hR hW hf M (fun v h' hp hle => by obtain ⟨x, rfl, hx⟩ := hp; exact K x h' hx hle)
theorem V_cV0l (n : Nat) {r i c : Nat} {f : Int64 → qH → Prop} (M : qM y2 cc2 nL2 ret2 d2 lo2 mc2 ms2 ((.inr (.inr (some (r, i)))) :: []) h (pL f)) (hs : qcV y.cls idx y2 cc2 nL2 ret2 0) (hk : rg_k r = .inl c) (hC : rg_C c = y2.cls) (hr : r ≠ 0) (hd : decode cc pc = .ok (.invokevirtual idx, 3)) (hn : pc + 3 = n) (hR : d2 + 1 ≤ R.frames ∧ 8 + (nL2 + 11) + lo2 ≤ R.locals) (hW : ((rest.map (qc_v (fun _ _ => 0))).map fun v => v.category).sum ≤ 8) (hf : cells + mc2 ≤ R.cells ∧ slots + ms2 ≤ R.slots) (K : ∀ (x : Int64) (h' : qH), f x h' → (∀ r, qg_n h r ≤ qg_n h' r) → Vw y cc nL ret R mc ms n0 Post n L (.inr (.inl x) :: rest) h' (cells + mc2) (slots + ms2)) : Vw y cc nL ret R mc ms n0 Post pc L ((.inr (.inr (some (r, i)))) :: rest) h cells slots := by
  subst hn
  exact V_cVg [] hs hk hC hr hd hR hW hf M (fun v h' hp hle => by obtain ⟨x, rfl, hx⟩ := hp; exact K x h' hx hle)
theorem V_cV0r (n : Nat) {r i c : Nat} {f : Option (Nat × Nat) → qH → Prop} (M : qM y2 cc2 nL2 ret2 d2 lo2 mc2 ms2 ((.inr (.inr (some (r, i)))) :: []) h (pR f)) (hs : qcV y.cls idx y2 cc2 nL2 ret2 0) (hk : rg_k r = .inl c) (hC : rg_C c = y2.cls) (hr : r ≠ 0) (hd : decode cc pc = .ok (.invokevirtual idx, 3)) (hn : pc + 3 = n) (hR : d2 + 1 ≤ R.frames ∧ 8 + (nL2 + 11) + lo2 ≤ R.locals) (hW : ((rest.map (qc_v (fun _ _ => 0))).map fun v => v.category).sum ≤ 8) (hf : cells + mc2 ≤ R.cells ∧ slots + ms2 ≤ R.slots) (K : ∀ (x : Option (Nat × Nat)) (h' : qH), f x h' → (∀ r, qg_n h r ≤ qg_n h' r) → Vw y cc nL ret R mc ms n0 Post n L (.inr (.inr x) :: rest) h' (cells + mc2) (slots + ms2)) : Vw y cc nL ret R mc ms n0 Post pc L ((.inr (.inr (some (r, i)))) :: rest) h cells slots := by
  subst hn
  exact V_cVg [] hs hk hC hr hd hR hW hf M (fun v h' hp hle => by obtain ⟨x, rfl, hx⟩ := hp; exact K x h' hx hle)
theorem V_cV0v (n : Nat) {r i c : Nat} {f : qH → Prop} (M : qM y2 cc2 nL2 ret2 d2 lo2 mc2 ms2 ((.inr (.inr (some (r, i)))) :: []) h (pV f)) (hs : qcV y.cls idx y2 cc2 nL2 ret2 0) (hk : rg_k r = .inl c) (hC : rg_C c = y2.cls) (hr : r ≠ 0) (hd : decode cc pc = .ok (.invokevirtual idx, 3)) (hn : pc + 3 = n) (hR : d2 + 1 ≤ R.frames ∧ 8 + (nL2 + 11) + lo2 ≤ R.locals) (hW : ((rest.map (qc_v (fun _ _ => 0))).map fun v => v.category).sum ≤ 8) (hf : cells + mc2 ≤ R.cells ∧ slots + ms2 ≤ R.slots) (K : ∀ (h' : qH), f h' → (∀ r, qg_n h r ≤ qg_n h' r) → Vw y cc nL ret R mc ms n0 Post n L (rest) h' (cells + mc2) (slots + ms2)) : Vw y cc nL ret R mc ms n0 Post pc L ((.inr (.inr (some (r, i)))) :: rest) h cells slots := by
  subst hn
  exact V_cVg [] hs hk hC hr hd hR hW hf M (fun v h' hp hle => by obtain ⟨rfl, hx⟩ := hp; exact K h' hx hle)
theorem V_cV1i (n : Nat) {r i c : Nat} {a1 : qV} {f : Int32 → qH → Prop} (M : qM y2 cc2 nL2 ret2 d2 lo2 mc2 ms2 ((.inr (.inr (some (r, i)))) :: [a1]) h (pI f)) (hs : qcV y.cls idx y2 cc2 nL2 ret2 1) (hk : rg_k r = .inl c) (hC : rg_C c = y2.cls) (hr : r ≠ 0) (hd : decode cc pc = .ok (.invokevirtual idx, 3)) (hn : pc + 3 = n) (hR : d2 + 1 ≤ R.frames ∧ 8 + (nL2 + 11) + lo2 ≤ R.locals) (hW : ((rest.map (qc_v (fun _ _ => 0))).map fun v => v.category).sum ≤ 8) (hf : cells + mc2 ≤ R.cells ∧ slots + ms2 ≤ R.slots) (K : ∀ (x : Int32) (h' : qH), f x h' → (∀ r, qg_n h r ≤ qg_n h' r) → Vw y cc nL ret R mc ms n0 Post n L (.inl x :: rest) h' (cells + mc2) (slots + ms2)) : Vw y cc nL ret R mc ms n0 Post pc L (a1 :: (.inr (.inr (some (r, i)))) :: rest) h cells slots := by
  subst hn
  exact V_cVg [a1] hs hk hC hr hd hR hW hf M (fun v h' hp hle => by obtain ⟨x, rfl, hx⟩ := hp; exact K x h' hx hle)
theorem V_cV1l (n : Nat) {r i c : Nat} {a1 : qV} {f : Int64 → qH → Prop} (M : qM y2 cc2 nL2 ret2 d2 lo2 mc2 ms2 ((.inr (.inr (some (r, i)))) :: [a1]) h (pL f)) (hs : qcV y.cls idx y2 cc2 nL2 ret2 1) (hk : rg_k r = .inl c) (hC : rg_C c = y2.cls) (hr : r ≠ 0) (hd : decode cc pc = .ok (.invokevirtual idx, 3)) (hn : pc + 3 = n) (hR : d2 + 1 ≤ R.frames ∧ 8 + (nL2 + 11) + lo2 ≤ R.locals) (hW : ((rest.map (qc_v (fun _ _ => 0))).map fun v => v.category).sum ≤ 8) (hf : cells + mc2 ≤ R.cells ∧ slots + ms2 ≤ R.slots) (K : ∀ (x : Int64) (h' : qH), f x h' → (∀ r, qg_n h r ≤ qg_n h' r) → Vw y cc nL ret R mc ms n0 Post n L (.inr (.inl x) :: rest) h' (cells + mc2) (slots + ms2)) : Vw y cc nL ret R mc ms n0 Post pc L (a1 :: (.inr (.inr (some (r, i)))) :: rest) h cells slots := by
  subst hn
  exact V_cVg [a1] hs hk hC hr hd hR hW hf M (fun v h' hp hle => by obtain ⟨x, rfl, hx⟩ := hp; exact K x h' hx hle)
theorem V_cV1r (n : Nat) {r i c : Nat} {a1 : qV} {f : Option (Nat × Nat) → qH → Prop} (M : qM y2 cc2 nL2 ret2 d2 lo2 mc2 ms2 ((.inr (.inr (some (r, i)))) :: [a1]) h (pR f)) (hs : qcV y.cls idx y2 cc2 nL2 ret2 1) (hk : rg_k r = .inl c) (hC : rg_C c = y2.cls) (hr : r ≠ 0) (hd : decode cc pc = .ok (.invokevirtual idx, 3)) (hn : pc + 3 = n) (hR : d2 + 1 ≤ R.frames ∧ 8 + (nL2 + 11) + lo2 ≤ R.locals) (hW : ((rest.map (qc_v (fun _ _ => 0))).map fun v => v.category).sum ≤ 8) (hf : cells + mc2 ≤ R.cells ∧ slots + ms2 ≤ R.slots) (K : ∀ (x : Option (Nat × Nat)) (h' : qH), f x h' → (∀ r, qg_n h r ≤ qg_n h' r) → Vw y cc nL ret R mc ms n0 Post n L (.inr (.inr x) :: rest) h' (cells + mc2) (slots + ms2)) : Vw y cc nL ret R mc ms n0 Post pc L (a1 :: (.inr (.inr (some (r, i)))) :: rest) h cells slots := by
  subst hn
  exact V_cVg [a1] hs hk hC hr hd hR hW hf M (fun v h' hp hle => by obtain ⟨x, rfl, hx⟩ := hp; exact K x h' hx hle)
theorem V_cV1v (n : Nat) {r i c : Nat} {a1 : qV} {f : qH → Prop} (M : qM y2 cc2 nL2 ret2 d2 lo2 mc2 ms2 ((.inr (.inr (some (r, i)))) :: [a1]) h (pV f)) (hs : qcV y.cls idx y2 cc2 nL2 ret2 1) (hk : rg_k r = .inl c) (hC : rg_C c = y2.cls) (hr : r ≠ 0) (hd : decode cc pc = .ok (.invokevirtual idx, 3)) (hn : pc + 3 = n) (hR : d2 + 1 ≤ R.frames ∧ 8 + (nL2 + 11) + lo2 ≤ R.locals) (hW : ((rest.map (qc_v (fun _ _ => 0))).map fun v => v.category).sum ≤ 8) (hf : cells + mc2 ≤ R.cells ∧ slots + ms2 ≤ R.slots) (K : ∀ (h' : qH), f h' → (∀ r, qg_n h r ≤ qg_n h' r) → Vw y cc nL ret R mc ms n0 Post n L (rest) h' (cells + mc2) (slots + ms2)) : Vw y cc nL ret R mc ms n0 Post pc L (a1 :: (.inr (.inr (some (r, i)))) :: rest) h cells slots := by
  subst hn
  exact V_cVg [a1] hs hk hC hr hd hR hW hf M (fun v h' hp hle => by obtain ⟨rfl, hx⟩ := hp; exact K h' hx hle)
theorem V_cV2i (n : Nat) {r i c : Nat} {a1 a2 : qV} {f : Int32 → qH → Prop} (M : qM y2 cc2 nL2 ret2 d2 lo2 mc2 ms2 ((.inr (.inr (some (r, i)))) :: [a1, a2]) h (pI f)) (hs : qcV y.cls idx y2 cc2 nL2 ret2 2) (hk : rg_k r = .inl c) (hC : rg_C c = y2.cls) (hr : r ≠ 0) (hd : decode cc pc = .ok (.invokevirtual idx, 3)) (hn : pc + 3 = n) (hR : d2 + 1 ≤ R.frames ∧ 8 + (nL2 + 11) + lo2 ≤ R.locals) (hW : ((rest.map (qc_v (fun _ _ => 0))).map fun v => v.category).sum ≤ 8) (hf : cells + mc2 ≤ R.cells ∧ slots + ms2 ≤ R.slots) (K : ∀ (x : Int32) (h' : qH), f x h' → (∀ r, qg_n h r ≤ qg_n h' r) → Vw y cc nL ret R mc ms n0 Post n L (.inl x :: rest) h' (cells + mc2) (slots + ms2)) : Vw y cc nL ret R mc ms n0 Post pc L (a2 :: a1 :: (.inr (.inr (some (r, i)))) :: rest) h cells slots := by
  subst hn
  exact V_cVg [a1, a2] hs hk hC hr hd hR hW hf M (fun v h' hp hle => by obtain ⟨x, rfl, hx⟩ := hp; exact K x h' hx hle)
theorem V_cV2l (n : Nat) {r i c : Nat} {a1 a2 : qV} {f : Int64 → qH → Prop} (M : qM y2 cc2 nL2 ret2 d2 lo2 mc2 ms2 ((.inr (.inr (some (r, i)))) :: [a1, a2]) h (pL f)) (hs : qcV y.cls idx y2 cc2 nL2 ret2 2) (hk : rg_k r = .inl c) (hC : rg_C c = y2.cls) (hr : r ≠ 0) (hd : decode cc pc = .ok (.invokevirtual idx, 3)) (hn : pc + 3 = n) (hR : d2 + 1 ≤ R.frames ∧ 8 + (nL2 + 11) + lo2 ≤ R.locals) (hW : ((rest.map (qc_v (fun _ _ => 0))).map fun v => v.category).sum ≤ 8) (hf : cells + mc2 ≤ R.cells ∧ slots + ms2 ≤ R.slots) (K : ∀ (x : Int64) (h' : qH), f x h' → (∀ r, qg_n h r ≤ qg_n h' r) → Vw y cc nL ret R mc ms n0 Post n L (.inr (.inl x) :: rest) h' (cells + mc2) (slots + ms2)) : Vw y cc nL ret R mc ms n0 Post pc L (a2 :: a1 :: (.inr (.inr (some (r, i)))) :: rest) h cells slots := by
  subst hn
  exact V_cVg [a1, a2] hs hk hC hr hd hR hW hf M (fun v h' hp hle => by obtain ⟨x, rfl, hx⟩ := hp; exact K x h' hx hle)
theorem V_cV2r (n : Nat) {r i c : Nat} {a1 a2 : qV} {f : Option (Nat × Nat) → qH → Prop} (M : qM y2 cc2 nL2 ret2 d2 lo2 mc2 ms2 ((.inr (.inr (some (r, i)))) :: [a1, a2]) h (pR f)) (hs : qcV y.cls idx y2 cc2 nL2 ret2 2) (hk : rg_k r = .inl c) (hC : rg_C c = y2.cls) (hr : r ≠ 0) (hd : decode cc pc = .ok (.invokevirtual idx, 3)) (hn : pc + 3 = n) (hR : d2 + 1 ≤ R.frames ∧ 8 + (nL2 + 11) + lo2 ≤ R.locals) (hW : ((rest.map (qc_v (fun _ _ => 0))).map fun v => v.category).sum ≤ 8) (hf : cells + mc2 ≤ R.cells ∧ slots + ms2 ≤ R.slots) (K : ∀ (x : Option (Nat × Nat)) (h' : qH), f x h' → (∀ r, qg_n h r ≤ qg_n h' r) → Vw y cc nL ret R mc ms n0 Post n L (.inr (.inr x) :: rest) h' (cells + mc2) (slots + ms2)) : Vw y cc nL ret R mc ms n0 Post pc L (a2 :: a1 :: (.inr (.inr (some (r, i)))) :: rest) h cells slots := by
  subst hn
  exact V_cVg [a1, a2] hs hk hC hr hd hR hW hf M (fun v h' hp hle => by obtain ⟨x, rfl, hx⟩ := hp; exact K x h' hx hle)
theorem V_cV2v (n : Nat) {r i c : Nat} {a1 a2 : qV} {f : qH → Prop} (M : qM y2 cc2 nL2 ret2 d2 lo2 mc2 ms2 ((.inr (.inr (some (r, i)))) :: [a1, a2]) h (pV f)) (hs : qcV y.cls idx y2 cc2 nL2 ret2 2) (hk : rg_k r = .inl c) (hC : rg_C c = y2.cls) (hr : r ≠ 0) (hd : decode cc pc = .ok (.invokevirtual idx, 3)) (hn : pc + 3 = n) (hR : d2 + 1 ≤ R.frames ∧ 8 + (nL2 + 11) + lo2 ≤ R.locals) (hW : ((rest.map (qc_v (fun _ _ => 0))).map fun v => v.category).sum ≤ 8) (hf : cells + mc2 ≤ R.cells ∧ slots + ms2 ≤ R.slots) (K : ∀ (h' : qH), f h' → (∀ r, qg_n h r ≤ qg_n h' r) → Vw y cc nL ret R mc ms n0 Post n L (rest) h' (cells + mc2) (slots + ms2)) : Vw y cc nL ret R mc ms n0 Post pc L (a2 :: a1 :: (.inr (.inr (some (r, i)))) :: rest) h cells slots := by
  subst hn
  exact V_cVg [a1, a2] hs hk hC hr hd hR hW hf M (fun v h' hp hle => by obtain ⟨rfl, hx⟩ := hp; exact K h' hx hle)
theorem V_cV3i (n : Nat) {r i c : Nat} {a1 a2 a3 : qV} {f : Int32 → qH → Prop} (M : qM y2 cc2 nL2 ret2 d2 lo2 mc2 ms2 ((.inr (.inr (some (r, i)))) :: [a1, a2, a3]) h (pI f)) (hs : qcV y.cls idx y2 cc2 nL2 ret2 3) (hk : rg_k r = .inl c) (hC : rg_C c = y2.cls) (hr : r ≠ 0) (hd : decode cc pc = .ok (.invokevirtual idx, 3)) (hn : pc + 3 = n) (hR : d2 + 1 ≤ R.frames ∧ 8 + (nL2 + 11) + lo2 ≤ R.locals) (hW : ((rest.map (qc_v (fun _ _ => 0))).map fun v => v.category).sum ≤ 8) (hf : cells + mc2 ≤ R.cells ∧ slots + ms2 ≤ R.slots) (K : ∀ (x : Int32) (h' : qH), f x h' → (∀ r, qg_n h r ≤ qg_n h' r) → Vw y cc nL ret R mc ms n0 Post n L (.inl x :: rest) h' (cells + mc2) (slots + ms2)) : Vw y cc nL ret R mc ms n0 Post pc L (a3 :: a2 :: a1 :: (.inr (.inr (some (r, i)))) :: rest) h cells slots := by
  subst hn
  exact V_cVg [a1, a2, a3] hs hk hC hr hd hR hW hf M (fun v h' hp hle => by obtain ⟨x, rfl, hx⟩ := hp; exact K x h' hx hle)
theorem V_cV3l (n : Nat) {r i c : Nat} {a1 a2 a3 : qV} {f : Int64 → qH → Prop} (M : qM y2 cc2 nL2 ret2 d2 lo2 mc2 ms2 ((.inr (.inr (some (r, i)))) :: [a1, a2, a3]) h (pL f)) (hs : qcV y.cls idx y2 cc2 nL2 ret2 3) (hk : rg_k r = .inl c) (hC : rg_C c = y2.cls) (hr : r ≠ 0) (hd : decode cc pc = .ok (.invokevirtual idx, 3)) (hn : pc + 3 = n) (hR : d2 + 1 ≤ R.frames ∧ 8 + (nL2 + 11) + lo2 ≤ R.locals) (hW : ((rest.map (qc_v (fun _ _ => 0))).map fun v => v.category).sum ≤ 8) (hf : cells + mc2 ≤ R.cells ∧ slots + ms2 ≤ R.slots) (K : ∀ (x : Int64) (h' : qH), f x h' → (∀ r, qg_n h r ≤ qg_n h' r) → Vw y cc nL ret R mc ms n0 Post n L (.inr (.inl x) :: rest) h' (cells + mc2) (slots + ms2)) : Vw y cc nL ret R mc ms n0 Post pc L (a3 :: a2 :: a1 :: (.inr (.inr (some (r, i)))) :: rest) h cells slots := by
  subst hn
  exact V_cVg [a1, a2, a3] hs hk hC hr hd hR hW hf M (fun v h' hp hle => by obtain ⟨x, rfl, hx⟩ := hp; exact K x h' hx hle)
theorem V_cV3r (n : Nat) {r i c : Nat} {a1 a2 a3 : qV} {f : Option (Nat × Nat) → qH → Prop} (M : qM y2 cc2 nL2 ret2 d2 lo2 mc2 ms2 ((.inr (.inr (some (r, i)))) :: [a1, a2, a3]) h (pR f)) (hs : qcV y.cls idx y2 cc2 nL2 ret2 3) (hk : rg_k r = .inl c) (hC : rg_C c = y2.cls) (hr : r ≠ 0) (hd : decode cc pc = .ok (.invokevirtual idx, 3)) (hn : pc + 3 = n) (hR : d2 + 1 ≤ R.frames ∧ 8 + (nL2 + 11) + lo2 ≤ R.locals) (hW : ((rest.map (qc_v (fun _ _ => 0))).map fun v => v.category).sum ≤ 8) (hf : cells + mc2 ≤ R.cells ∧ slots + ms2 ≤ R.slots) (K : ∀ (x : Option (Nat × Nat)) (h' : qH), f x h' → (∀ r, qg_n h r ≤ qg_n h' r) → Vw y cc nL ret R mc ms n0 Post n L (.inr (.inr x) :: rest) h' (cells + mc2) (slots + ms2)) : Vw y cc nL ret R mc ms n0 Post pc L (a3 :: a2 :: a1 :: (.inr (.inr (some (r, i)))) :: rest) h cells slots := by
  subst hn
  exact V_cVg [a1, a2, a3] hs hk hC hr hd hR hW hf M (fun v h' hp hle => by obtain ⟨x, rfl, hx⟩ := hp; exact K x h' hx hle)
theorem V_cV3v (n : Nat) {r i c : Nat} {a1 a2 a3 : qV} {f : qH → Prop} (M : qM y2 cc2 nL2 ret2 d2 lo2 mc2 ms2 ((.inr (.inr (some (r, i)))) :: [a1, a2, a3]) h (pV f)) (hs : qcV y.cls idx y2 cc2 nL2 ret2 3) (hk : rg_k r = .inl c) (hC : rg_C c = y2.cls) (hr : r ≠ 0) (hd : decode cc pc = .ok (.invokevirtual idx, 3)) (hn : pc + 3 = n) (hR : d2 + 1 ≤ R.frames ∧ 8 + (nL2 + 11) + lo2 ≤ R.locals) (hW : ((rest.map (qc_v (fun _ _ => 0))).map fun v => v.category).sum ≤ 8) (hf : cells + mc2 ≤ R.cells ∧ slots + ms2 ≤ R.slots) (K : ∀ (h' : qH), f h' → (∀ r, qg_n h r ≤ qg_n h' r) → Vw y cc nL ret R mc ms n0 Post n L (rest) h' (cells + mc2) (slots + ms2)) : Vw y cc nL ret R mc ms n0 Post pc L (a3 :: a2 :: a1 :: (.inr (.inr (some (r, i)))) :: rest) h cells slots := by
  subst hn
  exact V_cVg [a1, a2, a3] hs hk hC hr hd hR hW hf M (fun v h' hp hle => by obtain ⟨rfl, hx⟩ := hp; exact K h' hx hle)
theorem V_cV4i (n : Nat) {r i c : Nat} {a1 a2 a3 a4 : qV} {f : Int32 → qH → Prop} (M : qM y2 cc2 nL2 ret2 d2 lo2 mc2 ms2 ((.inr (.inr (some (r, i)))) :: [a1, a2, a3, a4]) h (pI f)) (hs : qcV y.cls idx y2 cc2 nL2 ret2 4) (hk : rg_k r = .inl c) (hC : rg_C c = y2.cls) (hr : r ≠ 0) (hd : decode cc pc = .ok (.invokevirtual idx, 3)) (hn : pc + 3 = n) (hR : d2 + 1 ≤ R.frames ∧ 8 + (nL2 + 11) + lo2 ≤ R.locals) (hW : ((rest.map (qc_v (fun _ _ => 0))).map fun v => v.category).sum ≤ 8) (hf : cells + mc2 ≤ R.cells ∧ slots + ms2 ≤ R.slots) (K : ∀ (x : Int32) (h' : qH), f x h' → (∀ r, qg_n h r ≤ qg_n h' r) → Vw y cc nL ret R mc ms n0 Post n L (.inl x :: rest) h' (cells + mc2) (slots + ms2)) : Vw y cc nL ret R mc ms n0 Post pc L (a4 :: a3 :: a2 :: a1 :: (.inr (.inr (some (r, i)))) :: rest) h cells slots := by
  subst hn
  exact V_cVg [a1, a2, a3, a4] hs hk hC hr hd hR hW hf M (fun v h' hp hle => by obtain ⟨x, rfl, hx⟩ := hp; exact K x h' hx hle)
theorem V_cV4l (n : Nat) {r i c : Nat} {a1 a2 a3 a4 : qV} {f : Int64 → qH → Prop} (M : qM y2 cc2 nL2 ret2 d2 lo2 mc2 ms2 ((.inr (.inr (some (r, i)))) :: [a1, a2, a3, a4]) h (pL f)) (hs : qcV y.cls idx y2 cc2 nL2 ret2 4) (hk : rg_k r = .inl c) (hC : rg_C c = y2.cls) (hr : r ≠ 0) (hd : decode cc pc = .ok (.invokevirtual idx, 3)) (hn : pc + 3 = n) (hR : d2 + 1 ≤ R.frames ∧ 8 + (nL2 + 11) + lo2 ≤ R.locals) (hW : ((rest.map (qc_v (fun _ _ => 0))).map fun v => v.category).sum ≤ 8) (hf : cells + mc2 ≤ R.cells ∧ slots + ms2 ≤ R.slots) (K : ∀ (x : Int64) (h' : qH), f x h' → (∀ r, qg_n h r ≤ qg_n h' r) → Vw y cc nL ret R mc ms n0 Post n L (.inr (.inl x) :: rest) h' (cells + mc2) (slots + ms2)) : Vw y cc nL ret R mc ms n0 Post pc L (a4 :: a3 :: a2 :: a1 :: (.inr (.inr (some (r, i)))) :: rest) h cells slots := by
  subst hn
  exact V_cVg [a1, a2, a3, a4] hs hk hC hr hd hR hW hf M (fun v h' hp hle => by obtain ⟨x, rfl, hx⟩ := hp; exact K x h' hx hle)
theorem V_cV4r (n : Nat) {r i c : Nat} {a1 a2 a3 a4 : qV} {f : Option (Nat × Nat) → qH → Prop} (M : qM y2 cc2 nL2 ret2 d2 lo2 mc2 ms2 ((.inr (.inr (some (r, i)))) :: [a1, a2, a3, a4]) h (pR f)) (hs : qcV y.cls idx y2 cc2 nL2 ret2 4) (hk : rg_k r = .inl c) (hC : rg_C c = y2.cls) (hr : r ≠ 0) (hd : decode cc pc = .ok (.invokevirtual idx, 3)) (hn : pc + 3 = n) (hR : d2 + 1 ≤ R.frames ∧ 8 + (nL2 + 11) + lo2 ≤ R.locals) (hW : ((rest.map (qc_v (fun _ _ => 0))).map fun v => v.category).sum ≤ 8) (hf : cells + mc2 ≤ R.cells ∧ slots + ms2 ≤ R.slots) (K : ∀ (x : Option (Nat × Nat)) (h' : qH), f x h' → (∀ r, qg_n h r ≤ qg_n h' r) → Vw y cc nL ret R mc ms n0 Post n L (.inr (.inr x) :: rest) h' (cells + mc2) (slots + ms2)) : Vw y cc nL ret R mc ms n0 Post pc L (a4 :: a3 :: a2 :: a1 :: (.inr (.inr (some (r, i)))) :: rest) h cells slots := by
  subst hn
  exact V_cVg [a1, a2, a3, a4] hs hk hC hr hd hR hW hf M (fun v h' hp hle => by obtain ⟨x, rfl, hx⟩ := hp; exact K x h' hx hle)
theorem V_cV4v (n : Nat) {r i c : Nat} {a1 a2 a3 a4 : qV} {f : qH → Prop} (M : qM y2 cc2 nL2 ret2 d2 lo2 mc2 ms2 ((.inr (.inr (some (r, i)))) :: [a1, a2, a3, a4]) h (pV f)) (hs : qcV y.cls idx y2 cc2 nL2 ret2 4) (hk : rg_k r = .inl c) (hC : rg_C c = y2.cls) (hr : r ≠ 0) (hd : decode cc pc = .ok (.invokevirtual idx, 3)) (hn : pc + 3 = n) (hR : d2 + 1 ≤ R.frames ∧ 8 + (nL2 + 11) + lo2 ≤ R.locals) (hW : ((rest.map (qc_v (fun _ _ => 0))).map fun v => v.category).sum ≤ 8) (hf : cells + mc2 ≤ R.cells ∧ slots + ms2 ≤ R.slots) (K : ∀ (h' : qH), f h' → (∀ r, qg_n h r ≤ qg_n h' r) → Vw y cc nL ret R mc ms n0 Post n L (rest) h' (cells + mc2) (slots + ms2)) : Vw y cc nL ret R mc ms n0 Post pc L (a4 :: a3 :: a2 :: a1 :: (.inr (.inr (some (r, i)))) :: rest) h cells slots := by
  subst hn
  exact V_cVg [a1, a2, a3, a4] hs hk hC hr hd hR hW hf M (fun v h' hp hle => by obtain ⟨rfl, hx⟩ := hp; exact K h' hx hle)
theorem V_cV5i (n : Nat) {r i c : Nat} {a1 a2 a3 a4 a5 : qV} {f : Int32 → qH → Prop} (M : qM y2 cc2 nL2 ret2 d2 lo2 mc2 ms2 ((.inr (.inr (some (r, i)))) :: [a1, a2, a3, a4, a5]) h (pI f)) (hs : qcV y.cls idx y2 cc2 nL2 ret2 5) (hk : rg_k r = .inl c) (hC : rg_C c = y2.cls) (hr : r ≠ 0) (hd : decode cc pc = .ok (.invokevirtual idx, 3)) (hn : pc + 3 = n) (hR : d2 + 1 ≤ R.frames ∧ 8 + (nL2 + 11) + lo2 ≤ R.locals) (hW : ((rest.map (qc_v (fun _ _ => 0))).map fun v => v.category).sum ≤ 8) (hf : cells + mc2 ≤ R.cells ∧ slots + ms2 ≤ R.slots) (K : ∀ (x : Int32) (h' : qH), f x h' → (∀ r, qg_n h r ≤ qg_n h' r) → Vw y cc nL ret R mc ms n0 Post n L (.inl x :: rest) h' (cells + mc2) (slots + ms2)) : Vw y cc nL ret R mc ms n0 Post pc L (a5 :: a4 :: a3 :: a2 :: a1 :: (.inr (.inr (some (r, i)))) :: rest) h cells slots := by
  subst hn
  exact V_cVg [a1, a2, a3, a4, a5] hs hk hC hr hd hR hW hf M (fun v h' hp hle => by obtain ⟨x, rfl, hx⟩ := hp; exact K x h' hx hle)
theorem V_cV5l (n : Nat) {r i c : Nat} {a1 a2 a3 a4 a5 : qV} {f : Int64 → qH → Prop} (M : qM y2 cc2 nL2 ret2 d2 lo2 mc2 ms2 ((.inr (.inr (some (r, i)))) :: [a1, a2, a3, a4, a5]) h (pL f)) (hs : qcV y.cls idx y2 cc2 nL2 ret2 5) (hk : rg_k r = .inl c) (hC : rg_C c = y2.cls) (hr : r ≠ 0) (hd : decode cc pc = .ok (.invokevirtual idx, 3)) (hn : pc + 3 = n) (hR : d2 + 1 ≤ R.frames ∧ 8 + (nL2 + 11) + lo2 ≤ R.locals) (hW : ((rest.map (qc_v (fun _ _ => 0))).map fun v => v.category).sum ≤ 8) (hf : cells + mc2 ≤ R.cells ∧ slots + ms2 ≤ R.slots) (K : ∀ (x : Int64) (h' : qH), f x h' → (∀ r, qg_n h r ≤ qg_n h' r) → Vw y cc nL ret R mc ms n0 Post n L (.inr (.inl x) :: rest) h' (cells + mc2) (slots + ms2)) : Vw y cc nL ret R mc ms n0 Post pc L (a5 :: a4 :: a3 :: a2 :: a1 :: (.inr (.inr (some (r, i)))) :: rest) h cells slots := by
  subst hn
  exact V_cVg [a1, a2, a3, a4, a5] hs hk hC hr hd hR hW hf M (fun v h' hp hle => by obtain ⟨x, rfl, hx⟩ := hp; exact K x h' hx hle)
theorem V_cV5r (n : Nat) {r i c : Nat} {a1 a2 a3 a4 a5 : qV} {f : Option (Nat × Nat) → qH → Prop} (M : qM y2 cc2 nL2 ret2 d2 lo2 mc2 ms2 ((.inr (.inr (some (r, i)))) :: [a1, a2, a3, a4, a5]) h (pR f)) (hs : qcV y.cls idx y2 cc2 nL2 ret2 5) (hk : rg_k r = .inl c) (hC : rg_C c = y2.cls) (hr : r ≠ 0) (hd : decode cc pc = .ok (.invokevirtual idx, 3)) (hn : pc + 3 = n) (hR : d2 + 1 ≤ R.frames ∧ 8 + (nL2 + 11) + lo2 ≤ R.locals) (hW : ((rest.map (qc_v (fun _ _ => 0))).map fun v => v.category).sum ≤ 8) (hf : cells + mc2 ≤ R.cells ∧ slots + ms2 ≤ R.slots) (K : ∀ (x : Option (Nat × Nat)) (h' : qH), f x h' → (∀ r, qg_n h r ≤ qg_n h' r) → Vw y cc nL ret R mc ms n0 Post n L (.inr (.inr x) :: rest) h' (cells + mc2) (slots + ms2)) : Vw y cc nL ret R mc ms n0 Post pc L (a5 :: a4 :: a3 :: a2 :: a1 :: (.inr (.inr (some (r, i)))) :: rest) h cells slots := by
  subst hn
  exact V_cVg [a1, a2, a3, a4, a5] hs hk hC hr hd hR hW hf M (fun v h' hp hle => by obtain ⟨x, rfl, hx⟩ := hp; exact K x h' hx hle)
theorem V_cV5v (n : Nat) {r i c : Nat} {a1 a2 a3 a4 a5 : qV} {f : qH → Prop} (M : qM y2 cc2 nL2 ret2 d2 lo2 mc2 ms2 ((.inr (.inr (some (r, i)))) :: [a1, a2, a3, a4, a5]) h (pV f)) (hs : qcV y.cls idx y2 cc2 nL2 ret2 5) (hk : rg_k r = .inl c) (hC : rg_C c = y2.cls) (hr : r ≠ 0) (hd : decode cc pc = .ok (.invokevirtual idx, 3)) (hn : pc + 3 = n) (hR : d2 + 1 ≤ R.frames ∧ 8 + (nL2 + 11) + lo2 ≤ R.locals) (hW : ((rest.map (qc_v (fun _ _ => 0))).map fun v => v.category).sum ≤ 8) (hf : cells + mc2 ≤ R.cells ∧ slots + ms2 ≤ R.slots) (K : ∀ (h' : qH), f h' → (∀ r, qg_n h r ≤ qg_n h' r) → Vw y cc nL ret R mc ms n0 Post n L (rest) h' (cells + mc2) (slots + ms2)) : Vw y cc nL ret R mc ms n0 Post pc L (a5 :: a4 :: a3 :: a2 :: a1 :: (.inr (.inr (some (r, i)))) :: rest) h cells slots := by
  subst hn
  exact V_cVg [a1, a2, a3, a4, a5] hs hk hC hr hd hR hW hf M (fun v h' hp hle => by obtain ⟨rfl, hx⟩ := hp; exact K h' hx hle)
theorem V_cV6i (n : Nat) {r i c : Nat} {a1 a2 a3 a4 a5 a6 : qV} {f : Int32 → qH → Prop} (M : qM y2 cc2 nL2 ret2 d2 lo2 mc2 ms2 ((.inr (.inr (some (r, i)))) :: [a1, a2, a3, a4, a5, a6]) h (pI f)) (hs : qcV y.cls idx y2 cc2 nL2 ret2 6) (hk : rg_k r = .inl c) (hC : rg_C c = y2.cls) (hr : r ≠ 0) (hd : decode cc pc = .ok (.invokevirtual idx, 3)) (hn : pc + 3 = n) (hR : d2 + 1 ≤ R.frames ∧ 8 + (nL2 + 11) + lo2 ≤ R.locals) (hW : ((rest.map (qc_v (fun _ _ => 0))).map fun v => v.category).sum ≤ 8) (hf : cells + mc2 ≤ R.cells ∧ slots + ms2 ≤ R.slots) (K : ∀ (x : Int32) (h' : qH), f x h' → (∀ r, qg_n h r ≤ qg_n h' r) → Vw y cc nL ret R mc ms n0 Post n L (.inl x :: rest) h' (cells + mc2) (slots + ms2)) : Vw y cc nL ret R mc ms n0 Post pc L (a6 :: a5 :: a4 :: a3 :: a2 :: a1 :: (.inr (.inr (some (r, i)))) :: rest) h cells slots := by
  subst hn
  exact V_cVg [a1, a2, a3, a4, a5, a6] hs hk hC hr hd hR hW hf M (fun v h' hp hle => by obtain ⟨x, rfl, hx⟩ := hp; exact K x h' hx hle)
theorem V_cV6l (n : Nat) {r i c : Nat} {a1 a2 a3 a4 a5 a6 : qV} {f : Int64 → qH → Prop} (M : qM y2 cc2 nL2 ret2 d2 lo2 mc2 ms2 ((.inr (.inr (some (r, i)))) :: [a1, a2, a3, a4, a5, a6]) h (pL f)) (hs : qcV y.cls idx y2 cc2 nL2 ret2 6) (hk : rg_k r = .inl c) (hC : rg_C c = y2.cls) (hr : r ≠ 0) (hd : decode cc pc = .ok (.invokevirtual idx, 3)) (hn : pc + 3 = n) (hR : d2 + 1 ≤ R.frames ∧ 8 + (nL2 + 11) + lo2 ≤ R.locals) (hW : ((rest.map (qc_v (fun _ _ => 0))).map fun v => v.category).sum ≤ 8) (hf : cells + mc2 ≤ R.cells ∧ slots + ms2 ≤ R.slots) (K : ∀ (x : Int64) (h' : qH), f x h' → (∀ r, qg_n h r ≤ qg_n h' r) → Vw y cc nL ret R mc ms n0 Post n L (.inr (.inl x) :: rest) h' (cells + mc2) (slots + ms2)) : Vw y cc nL ret R mc ms n0 Post pc L (a6 :: a5 :: a4 :: a3 :: a2 :: a1 :: (.inr (.inr (some (r, i)))) :: rest) h cells slots := by
  subst hn
  exact V_cVg [a1, a2, a3, a4, a5, a6] hs hk hC hr hd hR hW hf M (fun v h' hp hle => by obtain ⟨x, rfl, hx⟩ := hp; exact K x h' hx hle)
theorem V_cV6r (n : Nat) {r i c : Nat} {a1 a2 a3 a4 a5 a6 : qV} {f : Option (Nat × Nat) → qH → Prop} (M : qM y2 cc2 nL2 ret2 d2 lo2 mc2 ms2 ((.inr (.inr (some (r, i)))) :: [a1, a2, a3, a4, a5, a6]) h (pR f)) (hs : qcV y.cls idx y2 cc2 nL2 ret2 6) (hk : rg_k r = .inl c) (hC : rg_C c = y2.cls) (hr : r ≠ 0) (hd : decode cc pc = .ok (.invokevirtual idx, 3)) (hn : pc + 3 = n) (hR : d2 + 1 ≤ R.frames ∧ 8 + (nL2 + 11) + lo2 ≤ R.locals) (hW : ((rest.map (qc_v (fun _ _ => 0))).map fun v => v.category).sum ≤ 8) (hf : cells + mc2 ≤ R.cells ∧ slots + ms2 ≤ R.slots) (K : ∀ (x : Option (Nat × Nat)) (h' : qH), f x h' → (∀ r, qg_n h r ≤ qg_n h' r) → Vw y cc nL ret R mc ms n0 Post n L (.inr (.inr x) :: rest) h' (cells + mc2) (slots + ms2)) : Vw y cc nL ret R mc ms n0 Post pc L (a6 :: a5 :: a4 :: a3 :: a2 :: a1 :: (.inr (.inr (some (r, i)))) :: rest) h cells slots := by
  subst hn
  exact V_cVg [a1, a2, a3, a4, a5, a6] hs hk hC hr hd hR hW hf M (fun v h' hp hle => by obtain ⟨x, rfl, hx⟩ := hp; exact K x h' hx hle)
theorem V_cV6v (n : Nat) {r i c : Nat} {a1 a2 a3 a4 a5 a6 : qV} {f : qH → Prop} (M : qM y2 cc2 nL2 ret2 d2 lo2 mc2 ms2 ((.inr (.inr (some (r, i)))) :: [a1, a2, a3, a4, a5, a6]) h (pV f)) (hs : qcV y.cls idx y2 cc2 nL2 ret2 6) (hk : rg_k r = .inl c) (hC : rg_C c = y2.cls) (hr : r ≠ 0) (hd : decode cc pc = .ok (.invokevirtual idx, 3)) (hn : pc + 3 = n) (hR : d2 + 1 ≤ R.frames ∧ 8 + (nL2 + 11) + lo2 ≤ R.locals) (hW : ((rest.map (qc_v (fun _ _ => 0))).map fun v => v.category).sum ≤ 8) (hf : cells + mc2 ≤ R.cells ∧ slots + ms2 ≤ R.slots) (K : ∀ (h' : qH), f h' → (∀ r, qg_n h r ≤ qg_n h' r) → Vw y cc nL ret R mc ms n0 Post n L (rest) h' (cells + mc2) (slots + ms2)) : Vw y cc nL ret R mc ms n0 Post pc L (a6 :: a5 :: a4 :: a3 :: a2 :: a1 :: (.inr (.inr (some (r, i)))) :: rest) h cells slots := by
  subst hn
  exact V_cVg [a1, a2, a3, a4, a5, a6] hs hk hC hr hd hR hW hf M (fun v h' hp hle => by obtain ⟨rfl, hx⟩ := hp; exact K h' hx hle)
theorem V_cS1i (n : Nat) {a1 : qV} {f : Int32 → qH → Prop} (M : qM y2 cc2 nL2 ret2 d2 lo2 mc2 ms2 ([a1]) h (pI f)) (hs : qcS y.cls idx y2 cc2 nL2 ret2 1) (hd : decode cc pc = .ok (.invokestatic idx, 3)) (hn : pc + 3 = n) (hR : d2 + 1 ≤ R.frames ∧ 8 + (nL2 + 11) + lo2 ≤ R.locals) (hW : ((rest.map (qc_v (fun _ _ => 0))).map fun v => v.category).sum ≤ 8) (hf : cells + mc2 ≤ R.cells ∧ slots + ms2 ≤ R.slots) (K : ∀ (x : Int32) (h' : qH), f x h' → (∀ r, qg_n h r ≤ qg_n h' r) → Vw y cc nL ret R mc ms n0 Post n L (.inl x :: rest) h' (cells + mc2) (slots + ms2)) : Vw y cc nL ret R mc ms n0 Post pc L (a1 :: rest) h cells slots := by
  subst hn
  exact V_cSg [a1] hs hd hR hW hf M (fun v h' hp hle => by obtain ⟨x, rfl, hx⟩ := hp; exact K x h' hx hle)
theorem V_cS1l (n : Nat) {a1 : qV} {f : Int64 → qH → Prop} (M : qM y2 cc2 nL2 ret2 d2 lo2 mc2 ms2 ([a1]) h (pL f)) (hs : qcS y.cls idx y2 cc2 nL2 ret2 1) (hd : decode cc pc = .ok (.invokestatic idx, 3)) (hn : pc + 3 = n) (hR : d2 + 1 ≤ R.frames ∧ 8 + (nL2 + 11) + lo2 ≤ R.locals) (hW : ((rest.map (qc_v (fun _ _ => 0))).map fun v => v.category).sum ≤ 8) (hf : cells + mc2 ≤ R.cells ∧ slots + ms2 ≤ R.slots) (K : ∀ (x : Int64) (h' : qH), f x h' → (∀ r, qg_n h r ≤ qg_n h' r) → Vw y cc nL ret R mc ms n0 Post n L (.inr (.inl x) :: rest) h' (cells + mc2) (slots + ms2)) : Vw y cc nL ret R mc ms n0 Post pc L (a1 :: rest) h cells slots := by
  subst hn
  exact V_cSg [a1] hs hd hR hW hf M (fun v h' hp hle => by obtain ⟨x, rfl, hx⟩ := hp; exact K x h' hx hle)
theorem V_cS1r (n : Nat) {a1 : qV} {f : Option (Nat × Nat) → qH → Prop} (M : qM y2 cc2 nL2 ret2 d2 lo2 mc2 ms2 ([a1]) h (pR f)) (hs : qcS y.cls idx y2 cc2 nL2 ret2 1) (hd : decode cc pc = .ok (.invokestatic idx, 3)) (hn : pc + 3 = n) (hR : d2 + 1 ≤ R.frames ∧ 8 + (nL2 + 11) + lo2 ≤ R.locals) (hW : ((rest.map (qc_v (fun _ _ => 0))).map fun v => v.category).sum ≤ 8) (hf : cells + mc2 ≤ R.cells ∧ slots + ms2 ≤ R.slots) (K : ∀ (x : Option (Nat × Nat)) (h' : qH), f x h' → (∀ r, qg_n h r ≤ qg_n h' r) → Vw y cc nL ret R mc ms n0 Post n L (.inr (.inr x) :: rest) h' (cells + mc2) (slots + ms2)) : Vw y cc nL ret R mc ms n0 Post pc L (a1 :: rest) h cells slots := by
  subst hn
  exact V_cSg [a1] hs hd hR hW hf M (fun v h' hp hle => by obtain ⟨x, rfl, hx⟩ := hp; exact K x h' hx hle)
theorem V_cS1v (n : Nat) {a1 : qV} {f : qH → Prop} (M : qM y2 cc2 nL2 ret2 d2 lo2 mc2 ms2 ([a1]) h (pV f)) (hs : qcS y.cls idx y2 cc2 nL2 ret2 1) (hd : decode cc pc = .ok (.invokestatic idx, 3)) (hn : pc + 3 = n) (hR : d2 + 1 ≤ R.frames ∧ 8 + (nL2 + 11) + lo2 ≤ R.locals) (hW : ((rest.map (qc_v (fun _ _ => 0))).map fun v => v.category).sum ≤ 8) (hf : cells + mc2 ≤ R.cells ∧ slots + ms2 ≤ R.slots) (K : ∀ (h' : qH), f h' → (∀ r, qg_n h r ≤ qg_n h' r) → Vw y cc nL ret R mc ms n0 Post n L (rest) h' (cells + mc2) (slots + ms2)) : Vw y cc nL ret R mc ms n0 Post pc L (a1 :: rest) h cells slots := by
  subst hn
  exact V_cSg [a1] hs hd hR hW hf M (fun v h' hp hle => by obtain ⟨rfl, hx⟩ := hp; exact K h' hx hle)
theorem V_cS2i (n : Nat) {a1 a2 : qV} {f : Int32 → qH → Prop} (M : qM y2 cc2 nL2 ret2 d2 lo2 mc2 ms2 ([a1, a2]) h (pI f)) (hs : qcS y.cls idx y2 cc2 nL2 ret2 2) (hd : decode cc pc = .ok (.invokestatic idx, 3)) (hn : pc + 3 = n) (hR : d2 + 1 ≤ R.frames ∧ 8 + (nL2 + 11) + lo2 ≤ R.locals) (hW : ((rest.map (qc_v (fun _ _ => 0))).map fun v => v.category).sum ≤ 8) (hf : cells + mc2 ≤ R.cells ∧ slots + ms2 ≤ R.slots) (K : ∀ (x : Int32) (h' : qH), f x h' → (∀ r, qg_n h r ≤ qg_n h' r) → Vw y cc nL ret R mc ms n0 Post n L (.inl x :: rest) h' (cells + mc2) (slots + ms2)) : Vw y cc nL ret R mc ms n0 Post pc L (a2 :: a1 :: rest) h cells slots := by
  subst hn
  exact V_cSg [a1, a2] hs hd hR hW hf M (fun v h' hp hle => by obtain ⟨x, rfl, hx⟩ := hp; exact K x h' hx hle)
theorem V_cS2l (n : Nat) {a1 a2 : qV} {f : Int64 → qH → Prop} (M : qM y2 cc2 nL2 ret2 d2 lo2 mc2 ms2 ([a1, a2]) h (pL f)) (hs : qcS y.cls idx y2 cc2 nL2 ret2 2) (hd : decode cc pc = .ok (.invokestatic idx, 3)) (hn : pc + 3 = n) (hR : d2 + 1 ≤ R.frames ∧ 8 + (nL2 + 11) + lo2 ≤ R.locals) (hW : ((rest.map (qc_v (fun _ _ => 0))).map fun v => v.category).sum ≤ 8) (hf : cells + mc2 ≤ R.cells ∧ slots + ms2 ≤ R.slots) (K : ∀ (x : Int64) (h' : qH), f x h' → (∀ r, qg_n h r ≤ qg_n h' r) → Vw y cc nL ret R mc ms n0 Post n L (.inr (.inl x) :: rest) h' (cells + mc2) (slots + ms2)) : Vw y cc nL ret R mc ms n0 Post pc L (a2 :: a1 :: rest) h cells slots := by
  subst hn
  exact V_cSg [a1, a2] hs hd hR hW hf M (fun v h' hp hle => by obtain ⟨x, rfl, hx⟩ := hp; exact K x h' hx hle)
theorem V_cS2r (n : Nat) {a1 a2 : qV} {f : Option (Nat × Nat) → qH → Prop} (M : qM y2 cc2 nL2 ret2 d2 lo2 mc2 ms2 ([a1, a2]) h (pR f)) (hs : qcS y.cls idx y2 cc2 nL2 ret2 2) (hd : decode cc pc = .ok (.invokestatic idx, 3)) (hn : pc + 3 = n) (hR : d2 + 1 ≤ R.frames ∧ 8 + (nL2 + 11) + lo2 ≤ R.locals) (hW : ((rest.map (qc_v (fun _ _ => 0))).map fun v => v.category).sum ≤ 8) (hf : cells + mc2 ≤ R.cells ∧ slots + ms2 ≤ R.slots) (K : ∀ (x : Option (Nat × Nat)) (h' : qH), f x h' → (∀ r, qg_n h r ≤ qg_n h' r) → Vw y cc nL ret R mc ms n0 Post n L (.inr (.inr x) :: rest) h' (cells + mc2) (slots + ms2)) : Vw y cc nL ret R mc ms n0 Post pc L (a2 :: a1 :: rest) h cells slots := by
  subst hn
  exact V_cSg [a1, a2] hs hd hR hW hf M (fun v h' hp hle => by obtain ⟨x, rfl, hx⟩ := hp; exact K x h' hx hle)
theorem V_cS2v (n : Nat) {a1 a2 : qV} {f : qH → Prop} (M : qM y2 cc2 nL2 ret2 d2 lo2 mc2 ms2 ([a1, a2]) h (pV f)) (hs : qcS y.cls idx y2 cc2 nL2 ret2 2) (hd : decode cc pc = .ok (.invokestatic idx, 3)) (hn : pc + 3 = n) (hR : d2 + 1 ≤ R.frames ∧ 8 + (nL2 + 11) + lo2 ≤ R.locals) (hW : ((rest.map (qc_v (fun _ _ => 0))).map fun v => v.category).sum ≤ 8) (hf : cells + mc2 ≤ R.cells ∧ slots + ms2 ≤ R.slots) (K : ∀ (h' : qH), f h' → (∀ r, qg_n h r ≤ qg_n h' r) → Vw y cc nL ret R mc ms n0 Post n L (rest) h' (cells + mc2) (slots + ms2)) : Vw y cc nL ret R mc ms n0 Post pc L (a2 :: a1 :: rest) h cells slots := by
  subst hn
  exact V_cSg [a1, a2] hs hd hR hW hf M (fun v h' hp hle => by obtain ⟨rfl, hx⟩ := hp; exact K h' hx hle)
theorem V_cS3i (n : Nat) {a1 a2 a3 : qV} {f : Int32 → qH → Prop} (M : qM y2 cc2 nL2 ret2 d2 lo2 mc2 ms2 ([a1, a2, a3]) h (pI f)) (hs : qcS y.cls idx y2 cc2 nL2 ret2 3) (hd : decode cc pc = .ok (.invokestatic idx, 3)) (hn : pc + 3 = n) (hR : d2 + 1 ≤ R.frames ∧ 8 + (nL2 + 11) + lo2 ≤ R.locals) (hW : ((rest.map (qc_v (fun _ _ => 0))).map fun v => v.category).sum ≤ 8) (hf : cells + mc2 ≤ R.cells ∧ slots + ms2 ≤ R.slots) (K : ∀ (x : Int32) (h' : qH), f x h' → (∀ r, qg_n h r ≤ qg_n h' r) → Vw y cc nL ret R mc ms n0 Post n L (.inl x :: rest) h' (cells + mc2) (slots + ms2)) : Vw y cc nL ret R mc ms n0 Post pc L (a3 :: a2 :: a1 :: rest) h cells slots := by
  subst hn
  exact V_cSg [a1, a2, a3] hs hd hR hW hf M (fun v h' hp hle => by obtain ⟨x, rfl, hx⟩ := hp; exact K x h' hx hle)
theorem V_cS3l (n : Nat) {a1 a2 a3 : qV} {f : Int64 → qH → Prop} (M : qM y2 cc2 nL2 ret2 d2 lo2 mc2 ms2 ([a1, a2, a3]) h (pL f)) (hs : qcS y.cls idx y2 cc2 nL2 ret2 3) (hd : decode cc pc = .ok (.invokestatic idx, 3)) (hn : pc + 3 = n) (hR : d2 + 1 ≤ R.frames ∧ 8 + (nL2 + 11) + lo2 ≤ R.locals) (hW : ((rest.map (qc_v (fun _ _ => 0))).map fun v => v.category).sum ≤ 8) (hf : cells + mc2 ≤ R.cells ∧ slots + ms2 ≤ R.slots) (K : ∀ (x : Int64) (h' : qH), f x h' → (∀ r, qg_n h r ≤ qg_n h' r) → Vw y cc nL ret R mc ms n0 Post n L (.inr (.inl x) :: rest) h' (cells + mc2) (slots + ms2)) : Vw y cc nL ret R mc ms n0 Post pc L (a3 :: a2 :: a1 :: rest) h cells slots := by
  subst hn
  exact V_cSg [a1, a2, a3] hs hd hR hW hf M (fun v h' hp hle => by obtain ⟨x, rfl, hx⟩ := hp; exact K x h' hx hle)
theorem V_cS3r (n : Nat) {a1 a2 a3 : qV} {f : Option (Nat × Nat) → qH → Prop} (M : qM y2 cc2 nL2 ret2 d2 lo2 mc2 ms2 ([a1, a2, a3]) h (pR f)) (hs : qcS y.cls idx y2 cc2 nL2 ret2 3) (hd : decode cc pc = .ok (.invokestatic idx, 3)) (hn : pc + 3 = n) (hR : d2 + 1 ≤ R.frames ∧ 8 + (nL2 + 11) + lo2 ≤ R.locals) (hW : ((rest.map (qc_v (fun _ _ => 0))).map fun v => v.category).sum ≤ 8) (hf : cells + mc2 ≤ R.cells ∧ slots + ms2 ≤ R.slots) (K : ∀ (x : Option (Nat × Nat)) (h' : qH), f x h' → (∀ r, qg_n h r ≤ qg_n h' r) → Vw y cc nL ret R mc ms n0 Post n L (.inr (.inr x) :: rest) h' (cells + mc2) (slots + ms2)) : Vw y cc nL ret R mc ms n0 Post pc L (a3 :: a2 :: a1 :: rest) h cells slots := by
  subst hn
  exact V_cSg [a1, a2, a3] hs hd hR hW hf M (fun v h' hp hle => by obtain ⟨x, rfl, hx⟩ := hp; exact K x h' hx hle)
theorem V_cS3v (n : Nat) {a1 a2 a3 : qV} {f : qH → Prop} (M : qM y2 cc2 nL2 ret2 d2 lo2 mc2 ms2 ([a1, a2, a3]) h (pV f)) (hs : qcS y.cls idx y2 cc2 nL2 ret2 3) (hd : decode cc pc = .ok (.invokestatic idx, 3)) (hn : pc + 3 = n) (hR : d2 + 1 ≤ R.frames ∧ 8 + (nL2 + 11) + lo2 ≤ R.locals) (hW : ((rest.map (qc_v (fun _ _ => 0))).map fun v => v.category).sum ≤ 8) (hf : cells + mc2 ≤ R.cells ∧ slots + ms2 ≤ R.slots) (K : ∀ (h' : qH), f h' → (∀ r, qg_n h r ≤ qg_n h' r) → Vw y cc nL ret R mc ms n0 Post n L (rest) h' (cells + mc2) (slots + ms2)) : Vw y cc nL ret R mc ms n0 Post pc L (a3 :: a2 :: a1 :: rest) h cells slots := by
  subst hn
  exact V_cSg [a1, a2, a3] hs hd hR hW hf M (fun v h' hp hle => by obtain ⟨rfl, hx⟩ := hp; exact K h' hx hle)
theorem V_cS4i (n : Nat) {a1 a2 a3 a4 : qV} {f : Int32 → qH → Prop} (M : qM y2 cc2 nL2 ret2 d2 lo2 mc2 ms2 ([a1, a2, a3, a4]) h (pI f)) (hs : qcS y.cls idx y2 cc2 nL2 ret2 4) (hd : decode cc pc = .ok (.invokestatic idx, 3)) (hn : pc + 3 = n) (hR : d2 + 1 ≤ R.frames ∧ 8 + (nL2 + 11) + lo2 ≤ R.locals) (hW : ((rest.map (qc_v (fun _ _ => 0))).map fun v => v.category).sum ≤ 8) (hf : cells + mc2 ≤ R.cells ∧ slots + ms2 ≤ R.slots) (K : ∀ (x : Int32) (h' : qH), f x h' → (∀ r, qg_n h r ≤ qg_n h' r) → Vw y cc nL ret R mc ms n0 Post n L (.inl x :: rest) h' (cells + mc2) (slots + ms2)) : Vw y cc nL ret R mc ms n0 Post pc L (a4 :: a3 :: a2 :: a1 :: rest) h cells slots := by
  subst hn
  exact V_cSg [a1, a2, a3, a4] hs hd hR hW hf M (fun v h' hp hle => by obtain ⟨x, rfl, hx⟩ := hp; exact K x h' hx hle)
theorem V_cS4l (n : Nat) {a1 a2 a3 a4 : qV} {f : Int64 → qH → Prop} (M : qM y2 cc2 nL2 ret2 d2 lo2 mc2 ms2 ([a1, a2, a3, a4]) h (pL f)) (hs : qcS y.cls idx y2 cc2 nL2 ret2 4) (hd : decode cc pc = .ok (.invokestatic idx, 3)) (hn : pc + 3 = n) (hR : d2 + 1 ≤ R.frames ∧ 8 + (nL2 + 11) + lo2 ≤ R.locals) (hW : ((rest.map (qc_v (fun _ _ => 0))).map fun v => v.category).sum ≤ 8) (hf : cells + mc2 ≤ R.cells ∧ slots + ms2 ≤ R.slots) (K : ∀ (x : Int64) (h' : qH), f x h' → (∀ r, qg_n h r ≤ qg_n h' r) → Vw y cc nL ret R mc ms n0 Post n L (.inr (.inl x) :: rest) h' (cells + mc2) (slots + ms2)) : Vw y cc nL ret R mc ms n0 Post pc L (a4 :: a3 :: a2 :: a1 :: rest) h cells slots := by
  subst hn
  exact V_cSg [a1, a2, a3, a4] hs hd hR hW hf M (fun v h' hp hle => by obtain ⟨x, rfl, hx⟩ := hp; exact K x h' hx hle)
theorem V_cS4r (n : Nat) {a1 a2 a3 a4 : qV} {f : Option (Nat × Nat) → qH → Prop} (M : qM y2 cc2 nL2 ret2 d2 lo2 mc2 ms2 ([a1, a2, a3, a4]) h (pR f)) (hs : qcS y.cls idx y2 cc2 nL2 ret2 4) (hd : decode cc pc = .ok (.invokestatic idx, 3)) (hn : pc + 3 = n) (hR : d2 + 1 ≤ R.frames ∧ 8 + (nL2 + 11) + lo2 ≤ R.locals) (hW : ((rest.map (qc_v (fun _ _ => 0))).map fun v => v.category).sum ≤ 8) (hf : cells + mc2 ≤ R.cells ∧ slots + ms2 ≤ R.slots) (K : ∀ (x : Option (Nat × Nat)) (h' : qH), f x h' → (∀ r, qg_n h r ≤ qg_n h' r) → Vw y cc nL ret R mc ms n0 Post n L (.inr (.inr x) :: rest) h' (cells + mc2) (slots + ms2)) : Vw y cc nL ret R mc ms n0 Post pc L (a4 :: a3 :: a2 :: a1 :: rest) h cells slots := by
  subst hn
  exact V_cSg [a1, a2, a3, a4] hs hd hR hW hf M (fun v h' hp hle => by obtain ⟨x, rfl, hx⟩ := hp; exact K x h' hx hle)
theorem V_cS4v (n : Nat) {a1 a2 a3 a4 : qV} {f : qH → Prop} (M : qM y2 cc2 nL2 ret2 d2 lo2 mc2 ms2 ([a1, a2, a3, a4]) h (pV f)) (hs : qcS y.cls idx y2 cc2 nL2 ret2 4) (hd : decode cc pc = .ok (.invokestatic idx, 3)) (hn : pc + 3 = n) (hR : d2 + 1 ≤ R.frames ∧ 8 + (nL2 + 11) + lo2 ≤ R.locals) (hW : ((rest.map (qc_v (fun _ _ => 0))).map fun v => v.category).sum ≤ 8) (hf : cells + mc2 ≤ R.cells ∧ slots + ms2 ≤ R.slots) (K : ∀ (h' : qH), f h' → (∀ r, qg_n h r ≤ qg_n h' r) → Vw y cc nL ret R mc ms n0 Post n L (rest) h' (cells + mc2) (slots + ms2)) : Vw y cc nL ret R mc ms n0 Post pc L (a4 :: a3 :: a2 :: a1 :: rest) h cells slots := by
  subst hn
  exact V_cSg [a1, a2, a3, a4] hs hd hR hW hf M (fun v h' hp hle => by obtain ⟨rfl, hx⟩ := hp; exact K h' hx hle)
theorem V_cS5i (n : Nat) {a1 a2 a3 a4 a5 : qV} {f : Int32 → qH → Prop} (M : qM y2 cc2 nL2 ret2 d2 lo2 mc2 ms2 ([a1, a2, a3, a4, a5]) h (pI f)) (hs : qcS y.cls idx y2 cc2 nL2 ret2 5) (hd : decode cc pc = .ok (.invokestatic idx, 3)) (hn : pc + 3 = n) (hR : d2 + 1 ≤ R.frames ∧ 8 + (nL2 + 11) + lo2 ≤ R.locals) (hW : ((rest.map (qc_v (fun _ _ => 0))).map fun v => v.category).sum ≤ 8) (hf : cells + mc2 ≤ R.cells ∧ slots + ms2 ≤ R.slots) (K : ∀ (x : Int32) (h' : qH), f x h' → (∀ r, qg_n h r ≤ qg_n h' r) → Vw y cc nL ret R mc ms n0 Post n L (.inl x :: rest) h' (cells + mc2) (slots + ms2)) : Vw y cc nL ret R mc ms n0 Post pc L (a5 :: a4 :: a3 :: a2 :: a1 :: rest) h cells slots := by
  subst hn
  exact V_cSg [a1, a2, a3, a4, a5] hs hd hR hW hf M (fun v h' hp hle => by obtain ⟨x, rfl, hx⟩ := hp; exact K x h' hx hle)
theorem V_cS5l (n : Nat) {a1 a2 a3 a4 a5 : qV} {f : Int64 → qH → Prop} (M : qM y2 cc2 nL2 ret2 d2 lo2 mc2 ms2 ([a1, a2, a3, a4, a5]) h (pL f)) (hs : qcS y.cls idx y2 cc2 nL2 ret2 5) (hd : decode cc pc = .ok (.invokestatic idx, 3)) (hn : pc + 3 = n) (hR : d2 + 1 ≤ R.frames ∧ 8 + (nL2 + 11) + lo2 ≤ R.locals) (hW : ((rest.map (qc_v (fun _ _ => 0))).map fun v => v.category).sum ≤ 8) (hf : cells + mc2 ≤ R.cells ∧ slots + ms2 ≤ R.slots) (K : ∀ (x : Int64) (h' : qH), f x h' → (∀ r, qg_n h r ≤ qg_n h' r) → Vw y cc nL ret R mc ms n0 Post n L (.inr (.inl x) :: rest) h' (cells + mc2) (slots + ms2)) : Vw y cc nL ret R mc ms n0 Post pc L (a5 :: a4 :: a3 :: a2 :: a1 :: rest) h cells slots := by
  subst hn
  exact V_cSg [a1, a2, a3, a4, a5] hs hd hR hW hf M (fun v h' hp hle => by obtain ⟨x, rfl, hx⟩ := hp; exact K x h' hx hle)
theorem V_cS5r (n : Nat) {a1 a2 a3 a4 a5 : qV} {f : Option (Nat × Nat) → qH → Prop} (M : qM y2 cc2 nL2 ret2 d2 lo2 mc2 ms2 ([a1, a2, a3, a4, a5]) h (pR f)) (hs : qcS y.cls idx y2 cc2 nL2 ret2 5) (hd : decode cc pc = .ok (.invokestatic idx, 3)) (hn : pc + 3 = n) (hR : d2 + 1 ≤ R.frames ∧ 8 + (nL2 + 11) + lo2 ≤ R.locals) (hW : ((rest.map (qc_v (fun _ _ => 0))).map fun v => v.category).sum ≤ 8) (hf : cells + mc2 ≤ R.cells ∧ slots + ms2 ≤ R.slots) (K : ∀ (x : Option (Nat × Nat)) (h' : qH), f x h' → (∀ r, qg_n h r ≤ qg_n h' r) → Vw y cc nL ret R mc ms n0 Post n L (.inr (.inr x) :: rest) h' (cells + mc2) (slots + ms2)) : Vw y cc nL ret R mc ms n0 Post pc L (a5 :: a4 :: a3 :: a2 :: a1 :: rest) h cells slots := by
  subst hn
  exact V_cSg [a1, a2, a3, a4, a5] hs hd hR hW hf M (fun v h' hp hle => by obtain ⟨x, rfl, hx⟩ := hp; exact K x h' hx hle)
theorem V_cS5v (n : Nat) {a1 a2 a3 a4 a5 : qV} {f : qH → Prop} (M : qM y2 cc2 nL2 ret2 d2 lo2 mc2 ms2 ([a1, a2, a3, a4, a5]) h (pV f)) (hs : qcS y.cls idx y2 cc2 nL2 ret2 5) (hd : decode cc pc = .ok (.invokestatic idx, 3)) (hn : pc + 3 = n) (hR : d2 + 1 ≤ R.frames ∧ 8 + (nL2 + 11) + lo2 ≤ R.locals) (hW : ((rest.map (qc_v (fun _ _ => 0))).map fun v => v.category).sum ≤ 8) (hf : cells + mc2 ≤ R.cells ∧ slots + ms2 ≤ R.slots) (K : ∀ (h' : qH), f h' → (∀ r, qg_n h r ≤ qg_n h' r) → Vw y cc nL ret R mc ms n0 Post n L (rest) h' (cells + mc2) (slots + ms2)) : Vw y cc nL ret R mc ms n0 Post pc L (a5 :: a4 :: a3 :: a2 :: a1 :: rest) h cells slots := by
  subst hn
  exact V_cSg [a1, a2, a3, a4, a5] hs hd hR hW hf M (fun v h' hp hle => by obtain ⟨rfl, hx⟩ := hp; exact K h' hx hle)
theorem V_cI0v (n : Nat) {r i : Nat} {f : qH → Prop} (M : qM y2 cc2 nL2 none d2 lo2 mc2 ms2 ((.inr (.inr (some (r, i)))) :: []) h (pV f)) (hs : qcI y.cls idx y2 cc2 nL2 0) (hd : decode cc pc = .ok (.invokespecial idx, 3)) (hn : pc + 3 = n) (hR : d2 + 1 ≤ R.frames ∧ 8 + (nL2 + 11) + lo2 ≤ R.locals) (hW : ((rest.map (qc_v (fun _ _ => 0))).map fun v => v.category).sum ≤ 8) (hf : cells + mc2 ≤ R.cells ∧ slots + ms2 ≤ R.slots) (K : ∀ (h' : qH), f h' → (∀ r, qg_n h r ≤ qg_n h' r) → Vw y cc nL ret R mc ms n0 Post n L (rest) h' (cells + mc2) (slots + ms2)) : Vw y cc nL ret R mc ms n0 Post pc L ((.inr (.inr (some (r, i)))) :: rest) h cells slots := by
  subst hn
  exact V_cIg [] hs hd hR hW hf M (fun v h' hp hle => by obtain ⟨rfl, hx⟩ := hp; exact K h' hx hle)
theorem V_cI1v (n : Nat) {r i : Nat} {a1 : qV} {f : qH → Prop} (M : qM y2 cc2 nL2 none d2 lo2 mc2 ms2 ((.inr (.inr (some (r, i)))) :: [a1]) h (pV f)) (hs : qcI y.cls idx y2 cc2 nL2 1) (hd : decode cc pc = .ok (.invokespecial idx, 3)) (hn : pc + 3 = n) (hR : d2 + 1 ≤ R.frames ∧ 8 + (nL2 + 11) + lo2 ≤ R.locals) (hW : ((rest.map (qc_v (fun _ _ => 0))).map fun v => v.category).sum ≤ 8) (hf : cells + mc2 ≤ R.cells ∧ slots + ms2 ≤ R.slots) (K : ∀ (h' : qH), f h' → (∀ r, qg_n h r ≤ qg_n h' r) → Vw y cc nL ret R mc ms n0 Post n L (rest) h' (cells + mc2) (slots + ms2)) : Vw y cc nL ret R mc ms n0 Post pc L (a1 :: (.inr (.inr (some (r, i)))) :: rest) h cells slots := by
  subst hn
  exact V_cIg [a1] hs hd hR hW hf M (fun v h' hp hle => by obtain ⟨rfl, hx⟩ := hp; exact K h' hx hle)
theorem V_cI2v (n : Nat) {r i : Nat} {a1 a2 : qV} {f : qH → Prop} (M : qM y2 cc2 nL2 none d2 lo2 mc2 ms2 ((.inr (.inr (some (r, i)))) :: [a1, a2]) h (pV f)) (hs : qcI y.cls idx y2 cc2 nL2 2) (hd : decode cc pc = .ok (.invokespecial idx, 3)) (hn : pc + 3 = n) (hR : d2 + 1 ≤ R.frames ∧ 8 + (nL2 + 11) + lo2 ≤ R.locals) (hW : ((rest.map (qc_v (fun _ _ => 0))).map fun v => v.category).sum ≤ 8) (hf : cells + mc2 ≤ R.cells ∧ slots + ms2 ≤ R.slots) (K : ∀ (h' : qH), f h' → (∀ r, qg_n h r ≤ qg_n h' r) → Vw y cc nL ret R mc ms n0 Post n L (rest) h' (cells + mc2) (slots + ms2)) : Vw y cc nL ret R mc ms n0 Post pc L (a2 :: a1 :: (.inr (.inr (some (r, i)))) :: rest) h cells slots := by
  subst hn
  exact V_cIg [a1, a2] hs hd hR hW hf M (fun v h' hp hle => by obtain ⟨rfl, hx⟩ := hp; exact K h' hx hle)
theorem V_cI3v (n : Nat) {r i : Nat} {a1 a2 a3 : qV} {f : qH → Prop} (M : qM y2 cc2 nL2 none d2 lo2 mc2 ms2 ((.inr (.inr (some (r, i)))) :: [a1, a2, a3]) h (pV f)) (hs : qcI y.cls idx y2 cc2 nL2 3) (hd : decode cc pc = .ok (.invokespecial idx, 3)) (hn : pc + 3 = n) (hR : d2 + 1 ≤ R.frames ∧ 8 + (nL2 + 11) + lo2 ≤ R.locals) (hW : ((rest.map (qc_v (fun _ _ => 0))).map fun v => v.category).sum ≤ 8) (hf : cells + mc2 ≤ R.cells ∧ slots + ms2 ≤ R.slots) (K : ∀ (h' : qH), f h' → (∀ r, qg_n h r ≤ qg_n h' r) → Vw y cc nL ret R mc ms n0 Post n L (rest) h' (cells + mc2) (slots + ms2)) : Vw y cc nL ret R mc ms n0 Post pc L (a3 :: a2 :: a1 :: (.inr (.inr (some (r, i)))) :: rest) h cells slots := by
  subst hn
  exact V_cIg [a1, a2, a3] hs hd hR hW hf M (fun v h' hp hle => by obtain ⟨rfl, hx⟩ := hp; exact K h' hx hle)
theorem V_cI4v (n : Nat) {r i : Nat} {a1 a2 a3 a4 : qV} {f : qH → Prop} (M : qM y2 cc2 nL2 none d2 lo2 mc2 ms2 ((.inr (.inr (some (r, i)))) :: [a1, a2, a3, a4]) h (pV f)) (hs : qcI y.cls idx y2 cc2 nL2 4) (hd : decode cc pc = .ok (.invokespecial idx, 3)) (hn : pc + 3 = n) (hR : d2 + 1 ≤ R.frames ∧ 8 + (nL2 + 11) + lo2 ≤ R.locals) (hW : ((rest.map (qc_v (fun _ _ => 0))).map fun v => v.category).sum ≤ 8) (hf : cells + mc2 ≤ R.cells ∧ slots + ms2 ≤ R.slots) (K : ∀ (h' : qH), f h' → (∀ r, qg_n h r ≤ qg_n h' r) → Vw y cc nL ret R mc ms n0 Post n L (rest) h' (cells + mc2) (slots + ms2)) : Vw y cc nL ret R mc ms n0 Post pc L (a4 :: a3 :: a2 :: a1 :: (.inr (.inr (some (r, i)))) :: rest) h cells slots := by
  subst hn
  exact V_cIg [a1, a2, a3, a4] hs hd hR hW hf M (fun v h' hp hle => by obtain ⟨rfl, hx⟩ := hp; exact K h' hx hle)
theorem V_cN0v (n : Nat) {r i : Nat} {f : qH → Prop} (M : qM y2 cc2 nL2 none d2 lo2 mc2 ms2 ((.inr (.inr (some (r, i)))) :: []) h (pV f)) (hs : qcN y.cls idx y2 cc2 nL2 0) (hd : decode cc pc = .ok (.invokespecial idx, 3)) (hn : pc + 3 = n) (hR : d2 + 1 ≤ R.frames ∧ 8 + (nL2 + 11) + lo2 ≤ R.locals) (hW : ((rest.map (qc_v (fun _ _ => 0))).map fun v => v.category).sum ≤ 8) (hf : cells + mc2 ≤ R.cells ∧ slots + ms2 ≤ R.slots) (K : ∀ (h' : qH), f h' → (∀ r, qg_n h r ≤ qg_n h' r) → Vw y cc nL ret R mc ms n0 Post n L (rest) h' (cells + mc2) (slots + ms2)) : Vw y cc nL ret R mc ms n0 Post pc L ((.inr (.inr (some (r, i)))) :: rest) h cells slots := by
  subst hn
  exact V_cNg [] hs hd hR hW hf M (fun v h' hp hle => by obtain ⟨rfl, hx⟩ := hp; exact K h' hx hle)
end CALLV
