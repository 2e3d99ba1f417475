/-! Rows of fields, arrays, new objects -/
theorem qz_and (x : Int32) : x &&& 1 = 0 ∨ x &&& 1 = 1 := by
  obtain ⟨j, hj, e⟩ := pk_andE x (m := 1) 1 rfl
  rw [e]
  rcases (show j = 0 ∨ j = 1 by omega) with rfl | rfl
  · exact Or.inl rfl
  · exact Or.inr rfl
theorem qz_fit {x : Int32} (hx : narrow .boolean (.int x) = .int x) : fits .boolean (.int x) = true := by
  rw [← hx]
  simp [narrow, fits]
  exact qz_and x
theorem rg_ing : ∀ c, c < 9 → ∀ w ∈ u_ws (rg_C c) (rg_T c) (rg_N c), w ∈ lw_good := fun c hc w hw => by
  refine gd_in (rg_in c hc w hw) ?_
  obtain ⟨k, -, rfl⟩ := List.mem_map.mp hw
  unfold u_lay
  split <;> rfl
theorem qf_vi {ρ : Nat → Nat → Nat} {h : qH} {r i k j : Nat} {x : Int32} (hj : j ≠ k) (ty : FieldType) : qf_v ρ (qs_i h r i k x) ty r i j = qf_v ρ h ty r i j := by
  cases ty <;> simp [qf_v, qii, qli, qri, hj]
theorem qf_vl {ρ : Nat → Nat → Nat} {h : qH} {r i k j : Nat} {x : Int64} (hj : j ≠ k) (ty : FieldType) : qf_v ρ (qs_l h r i k x) ty r i j = qf_v ρ h ty r i j := by
  cases ty <;> simp [qf_v, qil, qll, qrl, hj]
theorem qf_vr {ρ : Nat → Nat → Nat} {h : qH} {r i k j : Nat} {x : Option (Nat × Nat)} (hj : j ≠ k) (ty : FieldType) : qf_v ρ (qs_r h r i k x) ty r i j = qf_v ρ h ty r i j := by
  cases ty <;> simp [qf_v, qir, qlr, qrr, hj]
theorem qo_i {h : qH} {r i k : Nat} {x : Int32} (r' i' : Nat) (e : ¬ (r' = r ∧ i' = i)) : qg_i (qs_i h r i k x) r' i' = qg_i h r' i' ∧ qg_l (qs_i h r i k x) r' i' = qg_l h r' i' ∧ qg_r (qs_i h r i k x) r' i' = qg_r h r' i' :=
  ⟨funext fun c => by rw [qii, if_neg (fun z => e ⟨z.1, z.2.1⟩)], rfl, rfl⟩
theorem qo_l {h : qH} {r i k : Nat} {x : Int64} (r' i' : Nat) (e : ¬ (r' = r ∧ i' = i)) : qg_i (qs_l h r i k x) r' i' = qg_i h r' i' ∧ qg_l (qs_l h r i k x) r' i' = qg_l h r' i' ∧ qg_r (qs_l h r i k x) r' i' = qg_r h r' i' :=
  ⟨rfl, funext fun c => by rw [qll, if_neg (fun z => e ⟨z.1, z.2.1⟩)], rfl⟩
theorem qo_r {h : qH} {r i k : Nat} {x : Option (Nat × Nat)} (r' i' : Nat) (e : ¬ (r' = r ∧ i' = i)) : qg_i (qs_r h r i k x) r' i' = qg_i h r' i' ∧ qg_l (qs_r h r i k x) r' i' = qg_l h r' i' ∧ qg_r (qs_r h r i k x) r' i' = qg_r h r' i' :=
  ⟨rfl, rfl, funext fun c => by rw [qrr, if_neg (fun z => e ⟨z.1, z.2.1⟩)]⟩
section QW
variable {p : Program} {l : Launch} {e : Env} {R : Room} {s : State} {m : MethodId} {args : Array Value} {below : List Frame} {meth : Method} {c0 : Code} {Q : State → Prop} {y : MethodName} {cc : ByteArray} {nL : Nat} {ret : Option FieldType} {D : va_G} {sz : Nat} {ρ : Nat → Nat → Nat} {h : qH} {H : Heap} {locs : List Loc} {cells slots pc : Nat} {ls : Array Slot} {rest : List Value} {r i c k idx : Nat}
theorem qw_get (X : qX y cc nL ret p s m args meth c0) (A : qa_R D sz ρ h s H) (hr : r ≠ 0) (hi : i < qg_n h r) (hk : rg_k r = .inl c) (hkN : k < rg_N c) (hw : Cond.fieldLink y.cls idx (rg_T c k).1 (rg_T c k).2.1 (rg_T c k).2.2.1 ∈ lw_tbl) (hd : decode cc pc = .ok (.getfield idx, 3))
    (kk : W p l e R s m args below meth c0 H locs cells slots Q (F0 m (pc + 3) ls (qf_v ρ h (rg_t c k) r i k :: rest))) : W p l e R s m args below meth c0 H locs cells slots Q (F0 m pc ls (.ref (ρ r i) :: rest)) := by
  obtain ⟨hc9, cell, q1, q2, q3, q4⟩ := (qa_at_o hk).mp (A.1 r i hi hr).1
  obtain ⟨hS, hfc, kC, hkC, hkind⟩ := A.2.2.2.2.1.1.1 c _ (rg_cl c hc9)
  obtain ⟨cf, kf, fi, f, hf, hsl⟩ := hS k hkN
  refine W.getf X.1 X.2.1 X.2.2.2.1 (X.2.2.2.2.1 _ (gd_in hw rfl)) hf (u_facts hfc hkC (u_lays X.2.2.2.2.1 (rg_ing c hc9) hkN) hf).1 q1 (by rw [q3]; exact fun z => by cases z) (v := qf_v ρ h (rg_t c k) r i k) ?_ rfl rfl hd kk
  rw [hsl, q4 k hkN]
theorem qw_put (X : qX y cc nL ret p s m args meth c0) (A : qa_R D sz ρ h s H) (hS0 : va_S (fun q => sz ≤ q) s.heap H locs) (hr : r ≠ 0) (hi : i < qg_n h r) (hk : rg_k r = .inl c) (hkN : k < rg_N c) (hw : Cond.fieldLink y.cls idx (rg_T c k).1 (rg_T c k).2.1 (rg_T c k).2.2.1 ∈ lw_tbl) (hfin : (rg_T c k).2.2.2 = false ∨ (y.name = "<init>" ∧ (rg_T c k).1 = y.cls)) {v : Value} (hn : narrow (rg_t c k) v = v) (hfit : fits (rg_t c k) v = true) (hd : decode cc pc = .ok (.putfield idx, 3))
    (kk : ∀ (H1 : Heap) (locs1 : List Loc), t_OB (ρ r i) (D.1 c) (rg_N c) (D.2 c) H1 (updV (fun j => qf_v ρ h (rg_t c j) r i j) k v) → H1.size = H.size → (∀ q : Nat, q ≠ ρ r i → H1[q]? = H[q]?) → va_S (fun q => sz ≤ q) s.heap H1 locs1 → W p l e R s m args below meth c0 H1 locs1 cells slots Q (F0 m (pc + 3) ls rest)) : W p l e R s m args below meth c0 H locs cells slots Q (F0 m pc ls (v :: .ref (ρ r i) :: rest)) := by
  obtain ⟨hat, hsz⟩ := A.1 r i hi hr
  obtain ⟨hc9, cell, q1, q2, q3, q4⟩ := (qa_at_o hk).mp hat
  have hK := A.2.2.2.2.1.1
  obtain ⟨hS, hfc, kC, hkC, hkind⟩ := hK.1 c _ (rg_cl c hc9)
  have hap := va_apart (own := y.cls) X.2.2.2.2.1 (rg_ing c hc9) (rg_t c) (rg_ty c hc9) (rg_nm c hc9) hK (rg_cl c hc9)
  obtain ⟨cf, kf, fi, f, hf, hsl⟩ := hS k hkN
  have hl := u_lays X.2.2.2.2.1 (rg_ing c hc9) hkN
  have hst := (u_facts hfc hkC hl hf).1
  have hlay := X.2.2.2.2.1 _ (rg_ing c hc9 _ (u_in_lay hkN))
  unfold u_lay at hlay
  have fin : ∀ H' : Heap, H'[ρ r i]? = some (cell.setSlot f.slot v) → H'.size = H.size → (∀ q, q ≠ ρ r i → H'[q]? = H[q]?) → W p l e R s m args below meth c0 H' (locs ++ [⟨ρ r i, f.slot⟩]) cells slots Q (F0 m (pc + 3) ls rest) := fun H' e1 e2 e3 => by
    rw [hsl] at e1 ⊢
    exact kk H' _ ⟨_, e1, q2, q3, t_set q4 hap hkN v⟩ e2 e3 (hS0.put e2 e3 hsz)
  by_cases hb : (rg_T c k).2.2.2 = true
  · rw [if_pos hb] at hlay
    have hf2 : y.name = "<init>" ∧ (rg_T c k).1 = y.cls := by
      rcases hfin with z | z
      · rw [hb] at z; cases z
      · exact z
    have hcf : m.cls = cf := by
      obtain ⟨_, _, c', _, _, _, -, -, hf', -, -, -, hown2, -⟩ := Cond.laysFinal_spec hlay
      have e1 : c' = cf := by have := hf.symm.trans hf'; simp at this; exact this.1.symm
      rw [hf2.2] at hown2
      rw [← e1]; exact Option.some.inj (X.2.2.2.1.symm.trans hown2)
    have h6 := u_fits hfc hkC hkind (Or.inr hlay) hf (rg_ty c hc9 k hkN) hn hfit
    exact W.putFinK X.1 X.2.1 X.2.2.2.1 (X.2.2.2.2.1 _ (gd_in hw rfl)) hf hst hcf (X.2.2.2.2.2.2.2.trans hf2.1) (by rw [q2]; exact h6) q1 q3 (by rw [hsl]; exact k2_hasslot (q4 k hkN)) rfl rfl hd fin
  · rw [if_neg hb] at hlay
    have h6 := u_store hfc hkC hkind hlay hf (rg_ty c hc9 k hkN) hn hfit
    exact W.putK X.1 X.2.1 (f := f) ⟨X.2.2.2.1, X.2.2.2.2.1 _ (gd_in hw rfl), ⟨_, _, _, hf⟩, hst⟩ (by rw [q2]; exact h6) q1 q3 (by rw [hsl]; exact k2_hasslot (q4 k hkN)) rfl rfl hd fin
end QW
section VH
variable {y : MethodName} {cc : ByteArray} {nL : Nat} {ret : Option FieldType} {R : Room} {mc ms : Nat} {n0 : Nat → Nat} {Post : Option qV → qH → Prop} {pc : Nat} {L : List (Nat × qV)} {st : List qV} {h : qH} {cells slots : Nat} {r i c k idx : Nat}
theorem V_geti (n : Nat) (c k : Nat) (hw : Cond.fieldLink y.cls idx (rg_T c k).1 (rg_T c k).2.1 (rg_T c k).2.2.1 ∈ lw_tbl) (hd : decode cc pc = .ok (.getfield idx, 3)) (hn : pc + 3 = n) (hk : rg_k r = .inl c) (hkN : k < rg_N c) (ht : rg_t c k = .int) (hr : r ≠ 0) (K : Vw y cc nL ret R mc ms n0 Post n L ((.inl (qg_i h r i k)) :: st) h cells slots) : Vw y cc nL ret R mc ms n0 Post pc L ((.inr (.inr (some (r, i)))) :: st) h cells slots := by
  subst hn
  intro p l e s m args below meth c0 Q D sz ρ0 ρ H locs ls X S E
  refine qw_get X S.2.2.2.1.1 hr (qk_h S.2.2.1 (r, i) rfl) hk hkN hw hd ?_
  rw [ht]
  exact K p l e s m args below meth c0 Q D sz ρ0 ρ H locs ls X (S.stk (fun z => qk_c trivial (qk_t z))) E
theorem V_getz (n : Nat) (c k : Nat) (hw : Cond.fieldLink y.cls idx (rg_T c k).1 (rg_T c k).2.1 (rg_T c k).2.2.1 ∈ lw_tbl) (hd : decode cc pc = .ok (.getfield idx, 3)) (hn : pc + 3 = n) (hk : rg_k r = .inl c) (hkN : k < rg_N c) (ht : rg_t c k = .boolean) (hr : r ≠ 0) (K : Vw y cc nL ret R mc ms n0 Post n L ((.inl (qg_i h r i k)) :: st) h cells slots) : Vw y cc nL ret R mc ms n0 Post pc L ((.inr (.inr (some (r, i)))) :: st) h cells slots := by
  subst hn
  intro p l e s m args below meth c0 Q D sz ρ0 ρ H locs ls X S E
  refine qw_get X S.2.2.2.1.1 hr (qk_h S.2.2.1 (r, i) rfl) hk hkN hw hd ?_
  rw [ht]
  exact K p l e s m args below meth c0 Q D sz ρ0 ρ H locs ls X (S.stk (fun z => qk_c trivial (qk_t z))) E
theorem V_getl (n : Nat) (c k : Nat) (hw : Cond.fieldLink y.cls idx (rg_T c k).1 (rg_T c k).2.1 (rg_T c k).2.2.1 ∈ lw_tbl) (hd : decode cc pc = .ok (.getfield idx, 3)) (hn : pc + 3 = n) (hk : rg_k r = .inl c) (hkN : k < rg_N c) (ht : rg_t c k = .long) (hr : r ≠ 0) (K : Vw y cc nL ret R mc ms n0 Post n L ((.inr (.inl (qg_l h r i k))) :: st) h cells slots) : Vw y cc nL ret R mc ms n0 Post pc L ((.inr (.inr (some (r, i)))) :: st) h cells slots := by
  subst hn
  intro p l e s m args below meth c0 Q D sz ρ0 ρ H locs ls X S E
  refine qw_get X S.2.2.2.1.1 hr (qk_h S.2.2.1 (r, i) rfl) hk hkN hw hd ?_
  rw [ht]
  exact K p l e s m args below meth c0 Q D sz ρ0 ρ H locs ls X (S.stk (fun z => qk_c trivial (qk_t z))) E
theorem V_geto (n : Nat) (c k : Nat) (hw : Cond.fieldLink y.cls idx (rg_T c k).1 (rg_T c k).2.1 (rg_T c k).2.2.1 ∈ lw_tbl) (hd : decode cc pc = .ok (.getfield idx, 3)) (hn : pc + 3 = n) (hk : rg_k r = .inl c) (hkN : k < rg_N c) (ht : ∃ t, rg_t c k = .object t) (hr : r ≠ 0) (K : Vw y cc nL ret R mc ms n0 Post n L ((.inr (.inr (qg_r h r i k))) :: st) h cells slots) : Vw y cc nL ret R mc ms n0 Post pc L ((.inr (.inr (some (r, i)))) :: st) h cells slots := by
  subst hn
  intro p l e s m args below meth c0 Q D sz ρ0 ρ H locs ls X S E
  obtain ⟨t, ht⟩ := ht
  refine qw_get X S.2.2.2.1.1 hr (qk_h S.2.2.1 (r, i) rfl) hk hkN hw hd ?_
  rw [ht]
  exact K p l e s m args below meth c0 Q D sz ρ0 ρ H locs ls X (S.stk (fun z => qk_c (fun b hb => S.2.2.2.1.1.2.2.2.1 _ _ _ _ hb) (qk_t z))) E
theorem V_geta (n : Nat) (c k : Nat) (hw : Cond.fieldLink y.cls idx (rg_T c k).1 (rg_T c k).2.1 (rg_T c k).2.2.1 ∈ lw_tbl) (hd : decode cc pc = .ok (.getfield idx, 3)) (hn : pc + 3 = n) (hk : rg_k r = .inl c) (hkN : k < rg_N c) (ht : ∃ t, rg_t c k = .array t) (hr : r ≠ 0) (K : Vw y cc nL ret R mc ms n0 Post n L ((.inr (.inr (qg_r h r i k))) :: st) h cells slots) : Vw y cc nL ret R mc ms n0 Post pc L ((.inr (.inr (some (r, i)))) :: st) h cells slots := by
  subst hn
  intro p l e s m args below meth c0 Q D sz ρ0 ρ H locs ls X S E
  obtain ⟨t, ht⟩ := ht
  refine qw_get X S.2.2.2.1.1 hr (qk_h S.2.2.1 (r, i) rfl) hk hkN hw hd ?_
  rw [ht]
  exact K p l e s m args below meth c0 Q D sz ρ0 ρ H locs ls X (S.stk (fun z => qk_c (fun b hb => S.2.2.2.1.1.2.2.2.1 _ _ _ _ hb) (qk_t z))) E
theorem V_puti (n : Nat) (c k : Nat) {x : Int32} (hw : Cond.fieldLink y.cls idx (rg_T c k).1 (rg_T c k).2.1 (rg_T c k).2.2.1 ∈ lw_tbl) (hd : decode cc pc = .ok (.putfield idx, 3)) (hn : pc + 3 = n) (hk : rg_k r = .inl c) (hkN : k < rg_N c) (ht : rg_t c k = .int) (hr : r ≠ 0) (hfin : (rg_T c k).2.2.2 = false ∨ (y.name = "<init>" ∧ (rg_T c k).1 = y.cls)) (K : Vw y cc nL ret R mc ms n0 Post n L st (qs_i h r i k x) cells slots) : Vw y cc nL ret R mc ms n0 Post pc L ((.inl x) :: (.inr (.inr (some (r, i)))) :: st) h cells slots := by
  subst hn
  intro p l e s m args below meth c0 Q D sz ρ0 ρ H locs ls X S E
  have hi : i < qg_n h r := qk_h (qk_t S.2.2.1) (r, i) rfl
  refine qw_put (v := qc_v ρ (.inl x)) X S.2.2.2.1.1 S.2.2.2.2.1 hr hi hk hkN hw hfin (by rw [ht]; rfl) (by rw [ht]; rfl) hd (fun H1 locs1 hob hz oq hS1 => ?_)
  have hc9 := ((qa_at_o hk).mp (S.2.2.2.1.1.1 r i hi hr).1).1
  refine K p l e s m args below meth c0 Q D sz ρ0 ρ H1 locs1 ls X ⟨S.1, S.2.1, qk_t (qk_t S.2.2.1), ⟨S.2.2.2.1.1.upd hr hi rfl (qo_i) (fun k b hb => S.2.2.2.1.1.2.2.2.1 _ _ _ _ hb) ((qa_at_o hk).mpr ⟨hc9, hob.to (fun j hj => ?_)⟩) oq hz, S.2.2.2.1.2⟩, hS1, S.2.2.2.2.2⟩ E
  by_cases e : j = k
  · subst e
    simp [updV, ht, qf_v, qii, qc_v]
  · simp only [updV, if_neg e]
    exact (qf_vi e _).symm
theorem V_putz (n : Nat) (c k : Nat) {x : Int32} (hw : Cond.fieldLink y.cls idx (rg_T c k).1 (rg_T c k).2.1 (rg_T c k).2.2.1 ∈ lw_tbl) (hd : decode cc pc = .ok (.putfield idx, 3)) (hn : pc + 3 = n) (hk : rg_k r = .inl c) (hkN : k < rg_N c) (ht : rg_t c k = .boolean) (hr : r ≠ 0) (hfin : (rg_T c k).2.2.2 = false ∨ (y.name = "<init>" ∧ (rg_T c k).1 = y.cls)) (hx : narrow .boolean (.int x) = .int x) (K : Vw y cc nL ret R mc ms n0 Post n L st (qs_i h r i k x) cells slots) : Vw y cc nL ret R mc ms n0 Post pc L ((.inl x) :: (.inr (.inr (some (r, i)))) :: st) h cells slots := by
  subst hn
  intro p l e s m args below meth c0 Q D sz ρ0 ρ H locs ls X S E
  have hi : i < qg_n h r := qk_h (qk_t S.2.2.1) (r, i) rfl
  refine qw_put (v := qc_v ρ (.inl x)) X S.2.2.2.1.1 S.2.2.2.2.1 hr hi hk hkN hw hfin (by rw [ht]; exact hx) (by rw [ht]; exact qz_fit hx) hd (fun H1 locs1 hob hz oq hS1 => ?_)
  have hc9 := ((qa_at_o hk).mp (S.2.2.2.1.1.1 r i hi hr).1).1
  refine K p l e s m args below meth c0 Q D sz ρ0 ρ H1 locs1 ls X ⟨S.1, S.2.1, qk_t (qk_t S.2.2.1), ⟨S.2.2.2.1.1.upd hr hi rfl (qo_i) (fun k b hb => S.2.2.2.1.1.2.2.2.1 _ _ _ _ hb) ((qa_at_o hk).mpr ⟨hc9, hob.to (fun j hj => ?_)⟩) oq hz, S.2.2.2.1.2⟩, hS1, S.2.2.2.2.2⟩ E
  by_cases e : j = k
  · subst e
    simp [updV, ht, qf_v, qii, qc_v]
  · simp only [updV, if_neg e]
    exact (qf_vi e _).symm
theorem V_putl (n : Nat) (c k : Nat) {x : Int64} (hw : Cond.fieldLink y.cls idx (rg_T c k).1 (rg_T c k).2.1 (rg_T c k).2.2.1 ∈ lw_tbl) (hd : decode cc pc = .ok (.putfield idx, 3)) (hn : pc + 3 = n) (hk : rg_k r = .inl c) (hkN : k < rg_N c) (ht : rg_t c k = .long) (hr : r ≠ 0) (hfin : (rg_T c k).2.2.2 = false ∨ (y.name = "<init>" ∧ (rg_T c k).1 = y.cls)) (K : Vw y cc nL ret R mc ms n0 Post n L st (qs_l h r i k x) cells slots) : Vw y cc nL ret R mc ms n0 Post pc L ((.inr (.inl x)) :: (.inr (.inr (some (r, i)))) :: st) h cells slots := by
  subst hn
  intro p l e s m args below meth c0 Q D sz ρ0 ρ H locs ls X S E
  have hi : i < qg_n h r := qk_h (qk_t S.2.2.1) (r, i) rfl
  refine qw_put (v := qc_v ρ (.inr (.inl x))) X S.2.2.2.1.1 S.2.2.2.2.1 hr hi hk hkN hw hfin (by rw [ht]; rfl) (by rw [ht]; rfl) hd (fun H1 locs1 hob hz oq hS1 => ?_)
  have hc9 := ((qa_at_o hk).mp (S.2.2.2.1.1.1 r i hi hr).1).1
  refine K p l e s m args below meth c0 Q D sz ρ0 ρ H1 locs1 ls X ⟨S.1, S.2.1, qk_t (qk_t S.2.2.1), ⟨S.2.2.2.1.1.upd hr hi rfl (qo_l) (fun k b hb => S.2.2.2.1.1.2.2.2.1 _ _ _ _ hb) ((qa_at_o hk).mpr ⟨hc9, hob.to (fun j hj => ?_)⟩) oq hz, S.2.2.2.1.2⟩, hS1, S.2.2.2.2.2⟩ E
  by_cases e : j = k
  · subst e
    simp [updV, ht, qf_v, qll, qc_v]
  · simp only [updV, if_neg e]
    exact (qf_vl e _).symm
theorem V_puto (n : Nat) (c k : Nat) {x : Option (Nat × Nat)} (hw : Cond.fieldLink y.cls idx (rg_T c k).1 (rg_T c k).2.1 (rg_T c k).2.2.1 ∈ lw_tbl) (hd : decode cc pc = .ok (.putfield idx, 3)) (hn : pc + 3 = n) (hk : rg_k r = .inl c) (hkN : k < rg_N c) (ht : ∃ t, rg_t c k = .object t) (hr : r ≠ 0) (hfin : (rg_T c k).2.2.2 = false ∨ (y.name = "<init>" ∧ (rg_T c k).1 = y.cls)) (K : Vw y cc nL ret R mc ms n0 Post n L st (qs_r h r i k x) cells slots) : Vw y cc nL ret R mc ms n0 Post pc L ((.inr (.inr x)) :: (.inr (.inr (some (r, i)))) :: st) h cells slots := by
  subst hn
  intro p l e s m args below meth c0 Q D sz ρ0 ρ H locs ls X S E
  obtain ⟨t, ht⟩ := ht
  have hi : i < qg_n h r := qk_h (qk_t S.2.2.1) (r, i) rfl
  refine qw_put (v := qc_v ρ (.inr (.inr x))) X S.2.2.2.1.1 S.2.2.2.2.1 hr hi hk hkN hw hfin (by rw [ht]; cases x <;> rfl) (by rw [ht]; cases x <;> rfl) hd (fun H1 locs1 hob hz oq hS1 => ?_)
  have hc9 := ((qa_at_o hk).mp (S.2.2.2.1.1.1 r i hi hr).1).1
  refine K p l e s m args below meth c0 Q D sz ρ0 ρ H1 locs1 ls X ⟨S.1, S.2.1, qk_t (qk_t S.2.2.1), ⟨S.2.2.2.1.1.upd hr hi rfl (qo_r) (fun j b hb => by
    rw [qrr] at hb
    split at hb
    · exact qk_h S.2.2.1 b hb
    · exact S.2.2.2.1.1.2.2.2.1 _ _ _ _ hb) ((qa_at_o hk).mpr ⟨hc9, hob.to (fun j hj => ?_)⟩) oq hz, S.2.2.2.1.2⟩, hS1, S.2.2.2.2.2⟩ E
  by_cases e : j = k
  · subst e
    simp [updV, ht, qf_v, qrr, qc_v]
  · simp only [updV, if_neg e]
    exact (qf_vr e _).symm
theorem V_puta (n : Nat) (c k : Nat) {x : Option (Nat × Nat)} (hw : Cond.fieldLink y.cls idx (rg_T c k).1 (rg_T c k).2.1 (rg_T c k).2.2.1 ∈ lw_tbl) (hd : decode cc pc = .ok (.putfield idx, 3)) (hn : pc + 3 = n) (hk : rg_k r = .inl c) (hkN : k < rg_N c) (ht : ∃ t, rg_t c k = .array t) (hr : r ≠ 0) (hfin : (rg_T c k).2.2.2 = false ∨ (y.name = "<init>" ∧ (rg_T c k).1 = y.cls)) (K : Vw y cc nL ret R mc ms n0 Post n L st (qs_r h r i k x) cells slots) : Vw y cc nL ret R mc ms n0 Post pc L ((.inr (.inr x)) :: (.inr (.inr (some (r, i)))) :: st) h cells slots := by
  subst hn
  intro p l e s m args below meth c0 Q D sz ρ0 ρ H locs ls X S E
  obtain ⟨t, ht⟩ := ht
  have hi : i < qg_n h r := qk_h (qk_t S.2.2.1) (r, i) rfl
  refine qw_put (v := qc_v ρ (.inr (.inr x))) X S.2.2.2.1.1 S.2.2.2.2.1 hr hi hk hkN hw hfin (by rw [ht]; cases x <;> rfl) (by rw [ht]; cases x <;> rfl) hd (fun H1 locs1 hob hz oq hS1 => ?_)
  have hc9 := ((qa_at_o hk).mp (S.2.2.2.1.1.1 r i hi hr).1).1
  refine K p l e s m args below meth c0 Q D sz ρ0 ρ H1 locs1 ls X ⟨S.1, S.2.1, qk_t (qk_t S.2.2.1), ⟨S.2.2.2.1.1.upd hr hi rfl (qo_r) (fun j b hb => by
    rw [qrr] at hb
    split at hb
    · exact qk_h S.2.2.1 b hb
    · exact S.2.2.2.1.1.2.2.2.1 _ _ _ _ hb) ((qa_at_o hk).mpr ⟨hc9, hob.to (fun j hj => ?_)⟩) oq hz, S.2.2.2.1.2⟩, hS1, S.2.2.2.2.2⟩ E
  by_cases e : j = k
  · subst e
    simp [updV, ht, qf_v, qrr, qc_v]
  · simp only [updV, if_neg e]
    exact (qf_vr e _).symm
theorem V_iald (n : Nat) {x : Int32} (hd : decode cc pc = .ok (.iaload, 1)) (hn : pc + 1 = n) (hk : rg_k r = .inr .int) (hr : r ≠ 0) (hin : vp_in x (rg_n r)) (K : Vw y cc nL ret R mc ms n0 Post n L ((.inl (qg_i h r i x.toNatClampNeg)) :: st) h cells slots) : Vw y cc nL ret R mc ms n0 Post pc L (.inl x :: (.inr (.inr (some (r, i)))) :: st) h cells slots := by
  subst hn
  intro p l e s m args below meth c0 Q D sz ρ0 ρ H locs ls X S E
  obtain ⟨cA, a1, a2, a3⟩ := (qa_at_a hk).mp (S.2.2.2.1.1.1 r i (qk_h (qk_t S.2.2.1) (r, i) rfl) hr).1
  have hlt : x.toNatClampNeg < rg_n r := Nat.not_le.mp fun q => hin (Or.inr q)
  have a3 : H[ρ r i]? = some (arrV cA (rg_n r) (fun j => .int (qg_i h r i j))) := a3
  exact W.iald (v := .int (qg_i h r i x.toNatClampNeg)) X.1 X.2.1 a3 (a1 (rg_n r) (fun j => .int (qg_i h r i j))) (fun q => by cases q) (by rw [arrV_size]; exact hin) (by rw [arrV_read _ _ hlt]) rfl rfl hd (K p l e s m args below meth c0 Q D sz ρ0 ρ H locs ls X (S.stk (fun z => qk_c trivial (qk_t (qk_t z)))) E)
theorem V_zald (n : Nat) {x : Int32} (hd : decode cc pc = .ok (.baload, 1)) (hn : pc + 1 = n) (hk : rg_k r = .inr .boolean) (hr : r ≠ 0) (hin : vp_in x (rg_n r)) (K : Vw y cc nL ret R mc ms n0 Post n L ((.inl (qg_i h r i x.toNatClampNeg)) :: st) h cells slots) : Vw y cc nL ret R mc ms n0 Post pc L (.inl x :: (.inr (.inr (some (r, i)))) :: st) h cells slots := by
  subst hn
  intro p l e s m args below meth c0 Q D sz ρ0 ρ H locs ls X S E
  obtain ⟨cA, a1, a2, a3⟩ := (qa_at_a hk).mp (S.2.2.2.1.1.1 r i (qk_h (qk_t S.2.2.1) (r, i) rfl) hr).1
  have hlt : x.toNatClampNeg < rg_n r := Nat.not_le.mp fun q => hin (Or.inr q)
  have a3 : H[ρ r i]? = some (arrV cA (rg_n r) (fun j => .int (qg_i h r i j))) := a3
  exact W.zald (v := .int (qg_i h r i x.toNatClampNeg)) X.1 X.2.1 a3 (a1 (rg_n r) (fun j => .int (qg_i h r i j))) (fun q => by cases q) (by rw [arrV_size]; exact hin) (by rw [arrV_read _ _ hlt]) rfl rfl hd (K p l e s m args below meth c0 Q D sz ρ0 ρ H locs ls X (S.stk (fun z => qk_c trivial (qk_t (qk_t z)))) E)
theorem V_lald (n : Nat) {x : Int32} (hd : decode cc pc = .ok (.laload, 1)) (hn : pc + 1 = n) (hk : rg_k r = .inr .long) (hr : r ≠ 0) (hin : vp_in x (rg_n r)) (K : Vw y cc nL ret R mc ms n0 Post n L ((.inr (.inl (qg_l h r i x.toNatClampNeg))) :: st) h cells slots) : Vw y cc nL ret R mc ms n0 Post pc L (.inl x :: (.inr (.inr (some (r, i)))) :: st) h cells slots := by
  subst hn
  intro p l e s m args below meth c0 Q D sz ρ0 ρ H locs ls X S E
  obtain ⟨cA, a1, a2, a3⟩ := (qa_at_a hk).mp (S.2.2.2.1.1.1 r i (qk_h (qk_t S.2.2.1) (r, i) rfl) hr).1
  have hlt : x.toNatClampNeg < rg_n r := Nat.not_le.mp fun q => hin (Or.inr q)
  have a3 : H[ρ r i]? = some (arrV cA (rg_n r) (fun j => .long (qg_l h r i j))) := a3
  exact W.lald (v := .long (qg_l h r i x.toNatClampNeg)) X.1 X.2.1 a3 (a1 (rg_n r) (fun j => .long (qg_l h r i j))) (fun q => by cases q) (by rw [arrV_size]; exact hin) (by rw [arrV_read _ _ hlt]) rfl rfl hd (K p l e s m args below meth c0 Q D sz ρ0 ρ H locs ls X (S.stk (fun z => qk_c trivial (qk_t (qk_t z)))) E)
theorem V_aald (n : Nat) {x : Int32} {ty : FieldType} (hd : decode cc pc = .ok (.aaload, 1)) (hn : pc + 1 = n) (hk : rg_k r = .inr ty) (hty : (∃ t, ty = .object t) ∨ ∃ t, ty = .array t) (hr : r ≠ 0) (hin : vp_in x (rg_n r)) (K : Vw y cc nL ret R mc ms n0 Post n L ((.inr (.inr (qg_r h r i x.toNatClampNeg))) :: st) h cells slots) : Vw y cc nL ret R mc ms n0 Post pc L (.inl x :: (.inr (.inr (some (r, i)))) :: st) h cells slots := by
  subst hn
  intro p l e s m args below meth c0 Q D sz ρ0 ρ H locs ls X S E
  obtain ⟨cA, a1, a2, a3⟩ := (qa_at_a hk).mp (S.2.2.2.1.1.1 r i (qk_h (qk_t S.2.2.1) (r, i) rfl) hr).1
  have hlt : x.toNatClampNeg < rg_n r := Nat.not_le.mp fun q => hin (Or.inr q)
  have a3 : H[ρ r i]? = some (arrV cA (rg_n r) (fun j => va_rf (qc_o ρ (qg_r h r i j)))) := by
    rcases hty with ⟨t, rfl⟩ | ⟨t, rfl⟩ <;> exact a3
  exact W.aald (v := va_rf (qc_o ρ (qg_r h r i x.toNatClampNeg))) (ty := ty) X.1 X.2.1 a3 (a1 (rg_n r) _) (by rcases hty with ⟨t, rfl⟩ | ⟨t, rfl⟩ <;> rfl) (fun q => by cases q) (by rw [arrV_size]; exact hin) (by rw [arrV_read _ _ hlt]) rfl rfl hd (K p l e s m args below meth c0 Q D sz ρ0 ρ H locs ls X (S.stk (fun z => qk_c (fun b hb => S.2.2.2.1.1.2.2.2.1 _ _ _ _ hb) (qk_t (qk_t z)))) E)
theorem V_iast (n : Nat) {x : Int32} {v : Int32} (hd : decode cc pc = .ok (.iastore, 1)) (hn : pc + 1 = n) (hk : rg_k r = .inr .int) (hr : r ≠ 0) (hin : vp_in x (rg_n r)) (K : Vw y cc nL ret R mc ms n0 Post n L st (qs_i h r i x.toNatClampNeg v) cells slots) : Vw y cc nL ret R mc ms n0 Post pc L ((.inl v) :: .inl x :: (.inr (.inr (some (r, i)))) :: st) h cells slots := by
  subst hn
  intro p l e s m args below meth c0 Q D sz ρ0 ρ H locs ls X S E
  have hi : i < qg_n h r := qk_h (qk_t (qk_t S.2.2.1)) (r, i) rfl
  obtain ⟨hat, hsz⟩ := S.2.2.2.1.1.1 r i hi hr
  obtain ⟨cA, a1, a2, a3⟩ := (qa_at_a hk).mp hat
  have a3 : H[ρ r i]? = some (arrV cA (rg_n r) (fun j => .int (qg_i h r i j))) := a3
  refine W.iast X.1 X.2.1 a3 (a1 (rg_n r) (fun j => .int (qg_i h r i j))) (fun q => by cases q) (by rw [arrV_size]; exact hin) rfl rfl hd (fun H1 e1 hz oq => ?_)
  refine K p l e s m args below meth c0 Q D sz ρ0 ρ H1 _ ls X ⟨S.1, S.2.1, qk_t (qk_t (qk_t S.2.2.1)), ⟨S.2.2.2.1.1.upd hr hi rfl (qo_i) (fun k b hb => S.2.2.2.1.1.2.2.2.1 _ _ _ _ hb) ((qa_at_a hk).mpr ⟨cA, a1, a2, ?_⟩) oq hz, S.2.2.2.1.2⟩, S.2.2.2.2.1.put hz oq hsz, S.2.2.2.2.2⟩ E
  rw [e1, arrV_store]
  show _ = some (arrV cA (rg_n r) (fun j => .int (qg_i (qs_i h r i x.toNatClampNeg v) r i j)))
  refine congrArg some (congrArg (arrV cA (rg_n r)) (funext fun j => ?_))
  by_cases e : j = x.toNatClampNeg
  · subst e
    simp [updV, qii]
  · simp [updV, e, qii]
theorem V_zast (n : Nat) {x : Int32} {v : Int32} (hd : decode cc pc = .ok (.bastore, 1)) (hn : pc + 1 = n) (hk : rg_k r = .inr .boolean) (hr : r ≠ 0) (hin : vp_in x (rg_n r)) (hv : narrow .boolean (.int v) = .int v) (K : Vw y cc nL ret R mc ms n0 Post n L st (qs_i h r i x.toNatClampNeg v) cells slots) : Vw y cc nL ret R mc ms n0 Post pc L ((.inl v) :: .inl x :: (.inr (.inr (some (r, i)))) :: st) h cells slots := by
  subst hn
  intro p l e s m args below meth c0 Q D sz ρ0 ρ H locs ls X S E
  have hi : i < qg_n h r := qk_h (qk_t (qk_t S.2.2.1)) (r, i) rfl
  obtain ⟨hat, hsz⟩ := S.2.2.2.1.1.1 r i hi hr
  obtain ⟨cA, a1, a2, a3⟩ := (qa_at_a hk).mp hat
  have a3 : H[ρ r i]? = some (arrV cA (rg_n r) (fun j => .int (qg_i h r i j))) := a3
  refine W.zast X.1 X.2.1 a3 (a1 (rg_n r) (fun j => .int (qg_i h r i j))) (fun q => by cases q) (by rw [arrV_size]; exact hin) rfl rfl hd (fun H1 e1 hz oq => ?_)
  refine K p l e s m args below meth c0 Q D sz ρ0 ρ H1 _ ls X ⟨S.1, S.2.1, qk_t (qk_t (qk_t S.2.2.1)), ⟨S.2.2.2.1.1.upd hr hi rfl (qo_i) (fun k b hb => S.2.2.2.1.1.2.2.2.1 _ _ _ _ hb) ((qa_at_a hk).mpr ⟨cA, a1, a2, ?_⟩) oq hz, S.2.2.2.1.2⟩, S.2.2.2.2.1.put hz oq hsz, S.2.2.2.2.2⟩ E
  rw [hv] at e1
  rw [e1, arrV_store]
  show _ = some (arrV cA (rg_n r) (fun j => .int (qg_i (qs_i h r i x.toNatClampNeg v) r i j)))
  refine congrArg some (congrArg (arrV cA (rg_n r)) (funext fun j => ?_))
  by_cases e : j = x.toNatClampNeg
  · subst e
    simp [updV, qii]
  · simp [updV, e, qii]
theorem V_last (n : Nat) {x : Int32} {v : Int64} (hd : decode cc pc = .ok (.lastore, 1)) (hn : pc + 1 = n) (hk : rg_k r = .inr .long) (hr : r ≠ 0) (hin : vp_in x (rg_n r)) (K : Vw y cc nL ret R mc ms n0 Post n L st (qs_l h r i x.toNatClampNeg v) cells slots) : Vw y cc nL ret R mc ms n0 Post pc L ((.inr (.inl v)) :: .inl x :: (.inr (.inr (some (r, i)))) :: st) h cells slots := by
  subst hn
  intro p l e s m args below meth c0 Q D sz ρ0 ρ H locs ls X S E
  have hi : i < qg_n h r := qk_h (qk_t (qk_t S.2.2.1)) (r, i) rfl
  obtain ⟨hat, hsz⟩ := S.2.2.2.1.1.1 r i hi hr
  obtain ⟨cA, a1, a2, a3⟩ := (qa_at_a hk).mp hat
  have a3 : H[ρ r i]? = some (arrV cA (rg_n r) (fun j => .long (qg_l h r i j))) := a3
  refine W.last X.1 X.2.1 a3 (a1 (rg_n r) (fun j => .long (qg_l h r i j))) (fun q => by cases q) (by rw [arrV_size]; exact hin) rfl rfl hd (fun H1 e1 hz oq => ?_)
  refine K p l e s m args below meth c0 Q D sz ρ0 ρ H1 _ ls X ⟨S.1, S.2.1, qk_t (qk_t (qk_t S.2.2.1)), ⟨S.2.2.2.1.1.upd hr hi rfl (qo_l) (fun k b hb => S.2.2.2.1.1.2.2.2.1 _ _ _ _ hb) ((qa_at_a hk).mpr ⟨cA, a1, a2, ?_⟩) oq hz, S.2.2.2.1.2⟩, S.2.2.2.2.1.put hz oq hsz, S.2.2.2.2.2⟩ E
  rw [e1, arrV_store]
  show _ = some (arrV cA (rg_n r) (fun j => .long (qg_l (qs_l h r i x.toNatClampNeg v) r i j)))
  refine congrArg some (congrArg (arrV cA (rg_n r)) (funext fun j => ?_))
  by_cases e : j = x.toNatClampNeg
  · subst e
    simp [updV, qll]
  · simp [updV, e, qll]
theorem V_aast (n : Nat) {x : Int32} {r2 i2 c2 : Nat} (hd : decode cc pc = .ok (.aastore, 1)) (hn : pc + 1 = n) (hk : rg_k r = .inr (.object (rg_C c2))) (hk2 : rg_k r2 = .inl c2) (hr : r ≠ 0) (hr2 : r2 ≠ 0) (hin : vp_in x (rg_n r)) (K : Vw y cc nL ret R mc ms n0 Post n L st (qs_r h r i x.toNatClampNeg (some (r2, i2))) cells slots) : Vw y cc nL ret R mc ms n0 Post pc L ((.inr (.inr (some (r2, i2)))) :: .inl x :: (.inr (.inr (some (r, i)))) :: st) h cells slots := by
  subst hn
  intro p l e s m args below meth c0 Q D sz ρ0 ρ H locs ls X S E
  have hi : i < qg_n h r := qk_h (qk_t (qk_t S.2.2.1)) (r, i) rfl
  have hi2 : i2 < qg_n h r2 := qk_h S.2.2.1 (r2, i2) rfl
  obtain ⟨hat, hsz⟩ := S.2.2.2.1.1.1 r i hi hr
  obtain ⟨cA, a1, a2, a3⟩ := (qa_at_a hk).mp hat
  have a3 : H[ρ r i]? = some (arrV cA (rg_n r) (fun j => va_rf (qc_o ρ (qg_r h r i j)))) := a3
  obtain ⟨hc9, cellV, g1, g2, g3, -⟩ := (qa_at_o hk2).mp (S.2.2.2.1.1.1 r2 i2 hi2 hr2).1
  have hcls := (S.2.2.2.1.1.2.2.2.2.1.1.1 c2 _ (rg_cl c2 hc9)).2
  obtain ⟨kA, comp, k1, k2, k3, k4⟩ := id a2
  have hcomp : comp = D.1 c2 := Option.some.inj (k3.symm.trans hcls.1)
  subst hcomp
  obtain ⟨kC, hkC, -⟩ := id hcls.2
  have hlt : x.toNatClampNeg < rg_n r := Nat.not_le.mp fun q => hin (Or.inr q)
  have h0 : ¬ x < 0 := fun q => hin (Or.inl q)
  refine W.aast X.1 X.2.1 a3 (fun q z => by cases z) (fun z => by cases z) k1 k2 rfl hkC ⟨h0, by rw [arrV_size]; exact hlt⟩ g1 (fun q z => by rw [g3] at z; cases z) (by rw [g2]; exact hkC) (by rw [g2]; exact va_assign hcls) rfl rfl hd (fun H1 e1 hz oq => ?_)
  refine K p l e s m args below meth c0 Q D sz ρ0 ρ H1 _ ls X ⟨S.1, S.2.1, qk_t (qk_t (qk_t S.2.2.1)), ⟨S.2.2.2.1.1.upd hr hi rfl (qo_r) (fun k b hb => ?_) ((qa_at_a hk).mpr ⟨cA, a1, a2, ?_⟩) oq hz, S.2.2.2.1.2⟩, S.2.2.2.2.1.put hz oq hsz, S.2.2.2.2.2⟩ E
  · rw [qrr] at hb
    split at hb
    · cases hb
      exact hi2
    · exact S.2.2.2.1.1.2.2.2.1 _ _ _ _ hb
  · rw [e1, arrV_store]
    show _ = some (arrV cA (rg_n r) (fun j => va_rf (qc_o ρ (qg_r (qs_r h r i x.toNatClampNeg (some (r2, i2))) r i j))))
    refine congrArg some (congrArg (arrV cA (rg_n r)) (funext fun j => ?_))
    by_cases e : j = x.toNatClampNeg
    · subst e
      simp [updV, qrr, qc_o, va_rf]
    · simp [updV, e, qrr]
theorem V_new (n r c : Nat) {idx : Nat} (hd : decode cc pc = .ok (.new idx, 3)) (hn : pc + 3 = n) (hk : rg_k r = .inl c) (hr : r ≠ 0) (hc9 : c < 9) (hw1 : Cond.classLink y.cls idx (rg_C c) ∈ lw_tbl) (hw2 : Cond.instantiable (rg_C c) (rg_N c) ∈ lw_tbl) (hw3 : Cond.initialized (rg_C c) ∈ lw_tbl) (hc : cells + 1 ≤ R.cells) (hs : slots + rg_N c ≤ R.slots) (hdf : ∀ k, k < rg_N c → rg_t c k ≠ .float ∧ rg_t c k ≠ .double) (K : Vw y cc nL ret R mc ms n0 Post n L ((.inr (.inr (some (r, qg_n h r)))) :: st) (qs_n h r) (cells + 1) (slots + rg_N c)) : Vw y cc nL ret R mc ms n0 Post pc L st h cells slots := by
  subst hn
  intro p l e s m args below meth c0 Q D sz ρ0 ρ H locs ls X S E
  have hKn := S.2.2.2.1.1.2.2.2.2.1.1.1 c _ (rg_cl c hc9)
  refine W.newcK X.1 X.2.1 X.2.2.2.1 (X.2.2.2.2.1 _ (gd_in hw1 rfl)) (X.2.2.2.2.1 _ (gd_in hw2 rfl)) (X.2.2.2.2.1 _ (gd_in hw3 rfl)) rfl hd hc hs hKn.2.1 rfl (fun H1 kC hkC e1 z1 o1 => ?_)
  have A := S.2.2.2.1.1
  have hz0 := A.2.2.1 r (qg_n h r)
  have hat : qa_at D (qr_up ρ r (qg_n h r) H.size) h s H1 r (qg_n h r) := (qa_at_o hk).mpr ⟨hc9, by
    rw [qr_up_eq]
    refine (u_born (rg_t c) X.2.2.2.2.1 (rg_ing c hc9) hKn hkC e1 (rg_ty c hc9)).to (fun k hkN => ?_)
    obtain ⟨d1, d2⟩ := hdf k hkN
    obtain ⟨z1, z2, z3⟩ := hz0 k (Nat.le_refl _)
    cases ht : rg_t c k <;> simp_all [qf_v, defaultValue, qc_o, va_rf]⟩
  have hle : ∀ a, qg_n h a ≤ qg_n (qs_n h r) a := fun a => by rw [qnn]; split <;> omega
  have hρ := qr_up_le (n := qg_n h) ρ (r := r) (q := H.size)
  have kk := K p l e s m args below meth c0 Q D sz ρ0 (qr_up ρ r (qg_n h r) H.size) H1 locs ls X ⟨⟨fun a => Nat.le_trans (S.1.1 a) (hle a), fun a b hb => (hρ a b (Nat.lt_of_lt_of_le hb (S.1.1 a))).trans (S.1.2 a b hb)⟩, ⟨by rw [qc_Lm hρ S.2.1.2]; exact S.2.1.1, qk_Lm hle S.2.1.2⟩, qk_c (fun b hb => by cases hb; show qg_n h r < _; rw [qnn, if_pos rfl]; exact Nat.lt_succ_self _) (qk_lm hle S.2.2.1), ⟨A.new hr hat (fun q hq => o1 q hq) z1, S.2.2.2.1.2⟩, ⟨Nat.le_trans S.2.2.2.2.1.1 (by omega), fun x h1 h2 => (o1 x (Nat.lt_of_lt_of_le h1 S.2.2.2.2.1.1)).trans (S.2.2.2.2.1.2.1 x h1 h2), S.2.2.2.2.1.2.2⟩, S.2.2.2.2.2⟩ E
  have e9 : (qv_r (some (r, qg_n h r)) :: st).map (qc_v (qr_up ρ r (qg_n h r) H.size)) = .ref H.size :: st.map (qc_v ρ) := by
    rw [List.map_cons, qc_lm hρ S.2.2.1]
    show Value.ref (qr_up ρ r (qg_n h r) H.size r (qg_n h r)) :: _ = _
    rw [qr_up_eq]
  rw [e9] at kk
  exact kk
theorem V_newa (n r : Nat) {at_ : ArrayType} {x : Int32} {ty : FieldType} (hd : decode cc pc = .ok (.newarray at_, 2)) (hn : pc + 2 = n) (hk : rg_k r = .inr ty) (hr : r ≠ 0) (hty : newarray.typeOf at_ = ty) (hp : ty = .int ∨ ty = .long ∨ ty = .boolean) (hw : Cond.arrayClass ty ∈ lw_tbl) (hx : ¬ x < 0) (hN : x.toNatClampNeg = rg_n r) (hb : rg_n r * 8 ≤ 536870912) (hc : cells + 1 ≤ R.cells) (hs : slots + rg_n r ≤ R.slots) (K : Vw y cc nL ret R mc ms n0 Post n L ((.inr (.inr (some (r, qg_n h r)))) :: st) (qs_n h r) (cells + 1) (slots + rg_n r)) : Vw y cc nL ret R mc ms n0 Post pc L (.inl x :: st) h cells slots := by
  subst hn
  intro p l e s m args below meth c0 Q D sz ρ0 ρ H locs ls X S E
  subst hty
  have hb2 : rg_n r * componentBytes (newarray.typeOf at_) ≤ 536870912 := by
    have : componentBytes (newarray.typeOf at_) ≤ 8 := by rcases hp with e | e | e <;> rw [e] <;> decide
    exact Nat.le_trans (Nat.mul_le_mul_left _ this) hb
  refine va_newaK X.1 X.2.1 (X.2.2.2.2.1 _ (gd_in hw rfl)) rfl hd rfl hx hN hb2 hc hs rfl (fun H1 cA e1 z1 o1 hAr hNm => ?_)
  have A := S.2.2.2.1.1
  have hz0 := A.2.2.1 r (qg_n h r)
  have hat : qa_at D (qr_up ρ r (qg_n h r) H.size) h s H1 r (qg_n h r) := (qa_at_a hk).mpr ⟨cA, hAr, by rcases hp with e | e | e <;> rw [e] at hNm ⊢ <;> exact hNm, by
    rw [qr_up_eq, e1]
    have w1 : qg_i h r (qg_n h r) = fun _ => 0 := funext fun k => (hz0 k (Nat.le_refl _)).1
    have w2 : qg_l h r (qg_n h r) = fun _ => 0 := funext fun k => (hz0 k (Nat.le_refl _)).2.1
    rcases hp with e | e | e <;> rw [e] <;> simp [qf_a, vp_cell, defaultValue, w1, w2]⟩
  have hle : ∀ a, qg_n h a ≤ qg_n (qs_n h r) a := fun a => by rw [qnn]; split <;> omega
  have hρ := qr_up_le (n := qg_n h) ρ (r := r) (q := H.size)
  have kk := K p l e s m args below meth c0 Q D sz ρ0 (qr_up ρ r (qg_n h r) H.size) H1 locs ls X ⟨⟨fun a => Nat.le_trans (S.1.1 a) (hle a), fun a b hb => (hρ a b (Nat.lt_of_lt_of_le hb (S.1.1 a))).trans (S.1.2 a b hb)⟩, ⟨by rw [qc_Lm hρ S.2.1.2]; exact S.2.1.1, qk_Lm hle S.2.1.2⟩, qk_c (fun b hb => by cases hb; show qg_n h r < _; rw [qnn, if_pos rfl]; exact Nat.lt_succ_self _) (qk_lm hle (qk_t S.2.2.1)), ⟨A.new hr hat (fun q hq => o1 q hq) z1, S.2.2.2.1.2⟩, ⟨Nat.le_trans S.2.2.2.2.1.1 (by omega), fun x h1 h2 => (o1 x (Nat.lt_of_lt_of_le h1 S.2.2.2.2.1.1)).trans (S.2.2.2.2.1.2.1 x h1 h2), S.2.2.2.2.1.2.2⟩, S.2.2.2.2.2⟩ E
  have e9 : (qv_r (some (r, qg_n h r)) :: st).map (qc_v (qr_up ρ r (qg_n h r) H.size)) = .ref H.size :: st.map (qc_v ρ) := by
    rw [List.map_cons, qc_lm hρ (qk_t S.2.2.1)]
    show Value.ref (qr_up ρ r (qg_n h r) H.size r (qg_n h r)) :: _ = _
    rw [qr_up_eq]
  rw [e9] at kk
  exact kk
theorem V_anewa (n r : Nat) {x : Int32} {idx : Nat} {C : String} (hd : decode cc pc = .ok (.anewarray idx, 3)) (hn : pc + 3 = n) (hk : rg_k r = .inr (.object C)) (hr : r ≠ 0) (hw : Cond.classLink y.cls idx C ∈ lw_tbl) (ho : ∀ (D : va_G) (s : State), qa_K D s → va_AO C s) (hx : ¬ x < 0) (hN : x.toNatClampNeg = rg_n r) (hb : rg_n r * 4 ≤ 536870912) (hc : cells + 1 ≤ R.cells) (hs : slots + rg_n r ≤ R.slots) (K : Vw y cc nL ret R mc ms n0 Post n L ((.inr (.inr (some (r, qg_n h r)))) :: st) (qs_n h r) (cells + 1) (slots + rg_n r)) : Vw y cc nL ret R mc ms n0 Post pc L (.inl x :: st) h cells slots := by
  subst hn
  intro p l e s m args below meth c0 Q D sz ρ0 ρ H locs ls X S E
  rw [← hN] at hb hs K
  have A := S.2.2.2.1.1
  refine W.anew X.1 X.2.1 X.2.2.2.1 (X.2.2.2.2.1 _ (gd_in hw rfl)) (va_AO.use (ho D s A.2.2.2.2.1)) rfl hd rfl hx hb hc hs (fun cA kA comp f1 f2 f3 f4 => ?_)
  generalize hH1 : H.push ({ cls := cA, slots := Array.replicate x.toNatClampNeg .null, vm := .none } : Cell) = H1
  have z1 : H1.size = H.size + 1 := by rw [← hH1, Array.size_push]
  have e1 : H1[H.size]? = some (arrV cA x.toNatClampNeg (fun _ => .null)) := by rw [← hH1, Array.getElem?_push_size, ← arrV_new]
  have o1 : ∀ q : Nat, q < H.size → H1[q]? = H[q]? := fun q hq => by rw [← hH1, Array.getElem?_push, if_neg (Nat.ne_of_lt hq)]
  have hAr : ArrOfT s cA (.object C) := fun N z => ⟨(fun k h => by cases h), kA, f2, comp, f3⟩
  have hz0 := A.2.2.1 r (qg_n h r)
  have hat : qa_at D (qr_up ρ r (qg_n h r) H.size) h s H1 r (qg_n h r) := (qa_at_a hk).mpr ⟨cA, hAr, ⟨kA, comp, f2, f3, f4, f1⟩, by
    rw [qr_up_eq, e1, ← hN]
    have w1 : qg_r h r (qg_n h r) = fun _ => none := funext fun k => (hz0 k (Nat.le_refl _)).2.2
    simp [qf_a, vp_cell, w1, qc_o, va_rf]⟩
  have hle : ∀ a, qg_n h a ≤ qg_n (qs_n h r) a := fun a => by rw [qnn]; split <;> omega
  have hρ := qr_up_le (n := qg_n h) ρ (r := r) (q := H.size)
  have kk := K p l e s m args below meth c0 Q D sz ρ0 (qr_up ρ r (qg_n h r) H.size) H1 locs ls X ⟨⟨fun a => Nat.le_trans (S.1.1 a) (hle a), fun a b hb => (hρ a b (Nat.lt_of_lt_of_le hb (S.1.1 a))).trans (S.1.2 a b hb)⟩, ⟨by rw [qc_Lm hρ S.2.1.2]; exact S.2.1.1, qk_Lm hle S.2.1.2⟩, qk_c (fun b hb => by cases hb; show qg_n h r < _; rw [qnn, if_pos rfl]; exact Nat.lt_succ_self _) (qk_lm hle (qk_t S.2.2.1)), ⟨A.new hr hat (fun q hq => o1 q hq) z1, S.2.2.2.1.2⟩, ⟨Nat.le_trans S.2.2.2.2.1.1 (by omega), fun x h1 h2 => (o1 x (Nat.lt_of_lt_of_le h1 S.2.2.2.2.1.1)).trans (S.2.2.2.2.1.2.1 x h1 h2), S.2.2.2.2.1.2.2⟩, S.2.2.2.2.2⟩ E
  have e9 : (qv_r (some (r, qg_n h r)) :: st).map (qc_v (qr_up ρ r (qg_n h r) H.size)) = .ref H.size :: st.map (qc_v ρ) := by
    rw [List.map_cons, qc_lm hρ (qk_t S.2.2.1)]
    show Value.ref (qr_up ρ r (qg_n h r) H.size r (qg_n h r)) :: _ = _
    rw [qr_up_eq]
  rw [e9] at kk
  exact kk
theorem V_sld (n : Nat) {x : Int32} (hd : decode cc pc = .ok (.iaload, 1)) (hn : pc + 1 = n) (hin : vp_in x (qg_l h 0 i 0).toNatClampNeg) (K : Vw y cc nL ret R mc ms n0 Post n L ((.inl (qg_i h 0 i x.toNatClampNeg)) :: st) h cells slots) : Vw y cc nL ret R mc ms n0 Post pc L (.inl x :: (.inr (.inr (some (0, i)))) :: st) h cells slots := by
  subst hn
  intro p l e s m args below meth c0 Q D sz ρ0 ρ H locs ls X S E
  obtain ⟨-, scr, b1, b2, b3, b4, b5⟩ := S.2.2.2.1.1.2.2.2.2.2.2 i (qk_h (qk_t S.2.2.1) (0, i) rfl)
  have hlt : x.toNatClampNeg < (qg_l h 0 i 0).toNatClampNeg := Nat.not_le.mp fun q => hin (Or.inr q)
  exact W.iald (v := .int (qg_i h 0 i x.toNatClampNeg)) X.1 X.2.1 b1 b2 b3 (by rw [b4]; exact hin) (b5 _ hlt) rfl rfl hd (K p l e s m args below meth c0 Q D sz ρ0 ρ H locs ls X (S.stk (fun z => qk_c trivial (qk_t (qk_t z)))) E)
theorem V_slen (n : Nat) (hd : decode cc pc = .ok (.arraylength, 1)) (hn : pc + 1 = n) (K : Vw y cc nL ret R mc ms n0 Post n L ((.inl (Int32.ofNat (qg_l h 0 i 0).toNatClampNeg)) :: st) h cells slots) : Vw y cc nL ret R mc ms n0 Post pc L ((.inr (.inr (some (0, i)))) :: st) h cells slots := by
  subst hn
  intro p l e s m args below meth c0 Q D sz ρ0 ρ H locs ls X S E
  obtain ⟨-, scr, b1, b2, b3, b4, b5⟩ := S.2.2.2.1.1.2.2.2.2.2.2 i (qk_h S.2.2.1 (0, i) rfl)
  exact W.alen (n := Int32.ofNat (qg_l h 0 i 0).toNatClampNeg) X.1 X.2.1 b1 b2 (by rw [b4] <;> rfl) rfl rfl hd (K p l e s m args below meth c0 Q D sz ρ0 ρ H locs ls X (S.stk (fun z => qk_c trivial (qk_t z))) E)
theorem V_objInit (n : Nat) {v : Option (Nat × Nat)} {idx : Nat} (hv : ∃ a, v = some a) (hd : decode cc pc = .ok (.invokespecial idx, 3)) (hn : pc + 3 = n) (hw1 : Cond.methodLink y.cls idx objectInit ∈ lw_tbl) (hw2 : Cond.instanceMethod objectInit ∈ lw_tbl) (hw3 : Cond.code objectInit ⟨#[0xb1]⟩ 1 none ∈ lw_tbl) (hf : 1 ≤ R.frames) (hlo : ((st.map (qc_v (fun _ _ => 0))).map fun v => v.category).sum + 12 ≤ R.locals) (K : Vw y cc nL ret R mc ms n0 Post n L st h cells slots) : Vw y cc nL ret R mc ms n0 Post pc L ((.inr (.inr v)) :: st) h cells slots := by
  subst hn
  intro p l e s m args below meth c0 Q D sz ρ0 ρ H locs ls X S E
  obtain ⟨a, rfl⟩ := hv
  refine W.objInit X.1 X.2.1 X.2.2.2.1 (X.2.2.2.2.1 _ (gd_in hw1 rfl)) (X.2.2.2.2.1 _ (gd_in hw2 rfl)) (X.2.2.2.2.1 _ (gd_in hw3 rfl)) rfl (by rw [X.2.2.1]; exact S.2.1.1.1) rfl hd hf ?_ (K p l e s m args below meth c0 Q D sz ρ0 ρ H locs ls X (S.stk (fun z => qk_t z)) E)
  have e : ((st.map (qc_v ρ)).map fun v => v.category) = ((st.map (qc_v (fun _ _ => 0))).map fun v => v.category) := by
    rw [List.map_map, List.map_map]
    exact List.map_congr_left (fun v _ => qc_cat _ _ v)
  rw [e]
  show 2 * 0 + _ + 12 ≤ _
  omega
end VH
