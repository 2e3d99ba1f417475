/-! What a heap of the machine is, of an abstract one -/
def qa_at (D : va_G) (ρ : Nat → Nat → Nat) (h : qH) (s : State) (H : Heap) (r i : Nat) : Prop := match rg_k r with
  | .inl c => c < 9 ∧ t_OB (ρ r i) (D.1 c) (rg_N c) (D.2 c) H (fun k => qf_v ρ h (rg_t c k) r i k)
  | .inr ty => ∃ cA : ClassId, ArrOfT s cA ty ∧ va_RA s cA ty ∧ H[ρ r i]? = some (vp_cell cA (rg_n r, qf_a ρ h ty r i))
theorem qa_at_o {D : va_G} {ρ : Nat → Nat → Nat} {h : qH} {s : State} {H : Heap} {r i c : Nat} (hk : rg_k r = .inl c) : qa_at D ρ h s H r i ↔ c < 9 ∧ t_OB (ρ r i) (D.1 c) (rg_N c) (D.2 c) H (fun k => qf_v ρ h (rg_t c k) r i k) := by
  unfold qa_at
  rw [hk]
theorem qa_at_a {D : va_G} {ρ : Nat → Nat → Nat} {h : qH} {s : State} {H : Heap} {r i : Nat} {ty : FieldType} (hk : rg_k r = .inr ty) : qa_at D ρ h s H r i ↔ ∃ cA : ClassId, ArrOfT s cA ty ∧ va_RA s cA ty ∧ H[ρ r i]? = some (vp_cell cA (rg_n r, qf_a ρ h ty r i)) := by
  unfold qa_at
  rw [hk]
/-- the array class of rows of longs -/
def qa_J (s : State) : Prop := ∃ (comp c : ClassId) (k : Class), s.vm.findClass (FieldType.array .long).toString = some comp ∧ (s.vm.classes.findIdx? fun (x : Class) => match x.kind with | .array component _ => component == comp | _ => false) = some c ∧ s.vm.classes[c]? = some k ∧ k.kind = .array comp (.array .long) ∧ s.vm.findClass ("[" ++ (FieldType.array .long).toString) = some c
theorem qa_J.moved {u U : State} (hvm : u.vm.Alike U.vm) (h : qa_J u) : qa_J U := by
  obtain ⟨comp, c, k, h1, h2, h3, h4, h5⟩ := h
  obtain ⟨k', hk', he⟩ := hvm.2.2 _ _ h3
  refine ⟨comp, c, k', by rw [hvm.findClass]; exact h1, ?_, hk', by rw [he]; exact h4, by rw [hvm.findClass]; exact h5⟩
  refine Eq.trans (va_idx_bare U.vm comp).symm ?_
  first | rw [hvm.bare_eq] | rw [← hvm.bare_eq]
  exact Eq.trans (va_idx_bare u.vm comp) h2
/-- the classes' knowledge, and the words that are not of the warm kind -/
def qa_K (D : va_G) (s : State) : Prop := va_K D vwCl [] s ∧ (va_AO "QuotaMeter$Tenant" s ∧ va_AO "QuotaMeter$Account" s ∧ va_AO "QuotaMeter$Hold" s ∧ va_AO "QuotaMeter$Invoice" s ∧ va_AO "QuotaMeter$Prices" s) ∧ qa_J s
def qa_N (s : State) : Prop := va_Nw (.methodLinkNest "QuotaMeter" 35 ⟨"QuotaMeter$KeyBook", "<init>", "()V"⟩ "QuotaMeter") s ∧ va_Nw (.methodLinkNest "QuotaMeter$Tenant" 29 ⟨"QuotaMeter$CreditBook", "<init>", "()V"⟩ "QuotaMeter") s
theorem qa_K.moved {D : va_G} {u U : State} (hvm : u.vm.Alike U.vm) (h : qa_K D u) : qa_K D U := ⟨va_K.moved hvm h.1, ⟨h.2.1.1.moved hvm, h.2.1.2.1.moved hvm, h.2.1.2.2.1.moved hvm, h.2.1.2.2.2.1.moved hvm, h.2.1.2.2.2.2.moved hvm⟩, h.2.2.moved hvm⟩
theorem qa_N.warm {s U : State} (hW : s.WarmedH U.vm) (h : qa_N s) : qa_N U := ⟨h.1.warmM hW, h.2.warmM hW⟩
theorem qa_N.same {s U : State} (hW : s.vm = U.vm) (h : qa_N s) : qa_N U := ⟨h.1.same rfl hW, h.2.same rfl hW⟩
def qa_X (ρ : Nat → Nat → Nat) (h : qH) (sz : Nat) (s : State) (H : Heap) : Prop := ∀ i, i < qg_n h 0 → ρ 0 i < sz ∧ ∃ scr : Cell, H[ρ 0 i]? = some scr ∧ s.isArrayOf scr .int ∧ scr.vm ≠ .unknown ∧ scr.slots.size = (qg_l h 0 i 0).toNatClampNeg ∧ ∀ j : Nat, j < (qg_l h 0 i 0).toNatClampNeg → scr.slots[j]? = some (.int (qg_i h 0 i j))
def qa_R (D : va_G) (sz : Nat) (ρ : Nat → Nat → Nat) (h : qH) (s : State) (H : Heap) : Prop :=
  (∀ r i, i < qg_n h r → r ≠ 0 → qa_at D ρ h s H r i ∧ sz ≤ ρ r i) ∧
  (∀ r i r' i', r ≠ 0 → r' ≠ 0 → i < qg_n h r → i' < qg_n h r' → ρ r i = ρ r' i' → r = r' ∧ i = i') ∧
  (∀ r i k, qg_n h r ≤ i → qg_i h r i k = 0 ∧ qg_l h r i k = 0 ∧ qg_r h r i k = none) ∧
  (∀ r i k a, qg_r h r i k = some a → a.2 < qg_n h a.1) ∧
  qa_K D s ∧ sz ≤ H.size ∧ qa_X ρ h sz s H
theorem qa_at.kept {D : va_G} {ρ : Nat → Nat → Nat} {h : qH} {s : State} {H H1 : Heap} {r i : Nat} (a : qa_at D ρ h s H r i) (hq : H1[ρ r i]? = H[ρ r i]?) : qa_at D ρ h s H1 r i := by
  cases hk : rg_k r with
  | inl c =>
    rw [qa_at_o hk] at a ⊢
    exact ⟨a.1, a.2.kept hq⟩
  | inr ty =>
    rw [qa_at_a hk] at a ⊢
    obtain ⟨cA, h1, h2, h3⟩ := a
    exact ⟨cA, h1, h2, hq.trans h3⟩
theorem qa_at.lt {D : va_G} {ρ : Nat → Nat → Nat} {h : qH} {s : State} {H : Heap} {r i : Nat} (a : qa_at D ρ h s H r i) : ρ r i < H.size := by
  cases hk : rg_k r with
  | inl c =>
    rw [qa_at_o hk] at a
    obtain ⟨-, cell, h2, -⟩ := a
    exact (Array.getElem?_eq_some_iff.mp h2).1
  | inr ty =>
    rw [qa_at_a hk] at a
    obtain ⟨cA, h1, h2, h3⟩ := a
    exact (Array.getElem?_eq_some_iff.mp h3).1
theorem qf_v_to {ρ ρ' : Nat → Nat → Nat} {h h' : qH} {r i : Nat} (e1 : qg_i h' r i = qg_i h r i) (e2 : qg_l h' r i = qg_l h r i) (e3 : ∀ k, qc_o ρ' (qg_r h' r i k) = qc_o ρ (qg_r h r i k)) (ty : FieldType) (k : Nat) : qf_v ρ' h' ty r i k = qf_v ρ h ty r i k := by
  cases ty <;> simp [qf_v, e1, e2, e3]
theorem qf_a_to {ρ ρ' : Nat → Nat → Nat} {h h' : qH} {r i : Nat} (e1 : qg_i h' r i = qg_i h r i) (e2 : qg_l h' r i = qg_l h r i) (e3 : ∀ k, qc_o ρ' (qg_r h' r i k) = qc_o ρ (qg_r h r i k)) (ty : FieldType) : qf_a ρ' h' ty r i = qf_a ρ h ty r i := by
  cases ty <;> simp [qf_a, e1, e2, e3]
theorem qa_at.to {D : va_G} {ρ ρ' : Nat → Nat → Nat} {h h' : qH} {s : State} {H : Heap} {r i : Nat} (a : qa_at D ρ h s H r i) (e0 : ρ' r i = ρ r i) (e1 : qg_i h' r i = qg_i h r i) (e2 : qg_l h' r i = qg_l h r i) (e3 : ∀ k, qc_o ρ' (qg_r h' r i k) = qc_o ρ (qg_r h r i k)) : qa_at D ρ' h' s H r i := by
  cases hk : rg_k r with
  | inl c =>
    rw [qa_at_o hk] at a ⊢
    refine ⟨a.1, ?_⟩
    rw [e0]
    exact a.2.to (fun k _ => (qf_v_to e1 e2 e3 _ k).symm)
  | inr ty =>
    rw [qa_at_a hk] at a ⊢
    obtain ⟨cA, h1, h2, h3⟩ := a
    exact ⟨cA, h1, h2, by rw [e0, qf_a_to e1 e2 e3]; exact h3⟩
theorem qa_at.moved {D : va_G} {ρ : Nat → Nat → Nat} {h : qH} {u U : State} {H : Heap} {r i : Nat} (hvm : u.vm.Alike U.vm) (a : qa_at D ρ h u H r i) : qa_at D ρ h U H r i := by
  cases hk : rg_k r with
  | inl c =>
    rw [qa_at_o hk] at a ⊢
    exact a
  | inr ty =>
    rw [qa_at_a hk] at a ⊢
    obtain ⟨cA, h1, h2, h3⟩ := a
    exact ⟨cA, arrOfT_moved hvm h1, h2.moved hvm, h3⟩
theorem qa_X.moved {ρ : Nat → Nat → Nat} {h : qH} {sz : Nat} {u U : State} {H : Heap} (hvm : u.vm.Alike U.vm) (a : qa_X ρ h sz u H) : qa_X ρ h sz U H := fun i hi => by
  obtain ⟨h0, scr, h1, h2, h3⟩ := a i hi
  exact ⟨h0, scr, h1, State.isArrayOf_alike hvm h2, h3⟩
theorem qa_R.moved {D : va_G} {sz : Nat} {ρ : Nat → Nat → Nat} {h : qH} {u U : State} {H : Heap} (hvm : u.vm.Alike U.vm) (a : qa_R D sz ρ h u H) : qa_R D sz ρ h U H :=
  ⟨fun r i hi hr => ⟨(a.1 r i hi hr).1.moved hvm, (a.1 r i hi hr).2⟩, a.2.1, a.2.2.1, a.2.2.2.1, a.2.2.2.2.1.moved hvm, a.2.2.2.2.2.1, a.2.2.2.2.2.2.moved hvm⟩
/-- one cell is written: a place of the object i of region r -/
theorem qa_R.upd {D : va_G} {sz : Nat} {ρ : Nat → Nat → Nat} {h h' : qH} {s : State} {H H1 : Heap} {r i : Nat} (a : qa_R D sz ρ h s H) (hr : r ≠ 0) (hi : i < qg_n h r) (hn : qg_n h' = qg_n h)
    (ho : ∀ r' i', ¬ (r' = r ∧ i' = i) → qg_i h' r' i' = qg_i h r' i' ∧ qg_l h' r' i' = qg_l h r' i' ∧ qg_r h' r' i' = qg_r h r' i') (hc : ∀ k b, qg_r h' r i k = some b → b.2 < qg_n h b.1)
    (hat : qa_at D ρ h' s H1 r i) (oq : ∀ q : Nat, q ≠ ρ r i → H1[q]? = H[q]?) (hz : H1.size = H.size) : qa_R D sz ρ h' s H1 := by
  obtain ⟨a1, a2, a3, a4, a5, a6, a7⟩ := a
  refine ⟨fun r' i' hi' hr' => ?_, ?_, fun r' i' k hk => ?_, fun r' i' k b hb => ?_, a5, by rw [hz]; exact a6, fun j hj => ?_⟩
  · rw [hn] at hi'
    refine ⟨?_, (a1 r' i' hi' hr').2⟩
    by_cases e : r' = r ∧ i' = i
    · rw [e.1, e.2]; exact hat
    · obtain ⟨e1, e2, e3⟩ := ho r' i' e
      refine ((a1 r' i' hi' hr').1.kept (oq _ (fun z => e ?_))).to rfl e1 e2 (fun k => by rw [e3])
      exact a2 r' i' r i hr' hr hi' hi z
  · rw [hn]; exact a2
  · rw [hn] at hk
    have e : ¬ (r' = r ∧ i' = i) := fun e => by rw [e.1, e.2] at hk; omega
    obtain ⟨e1, e2, e3⟩ := ho r' i' e
    rw [e1, e2, e3]
    exact a3 r' i' k hk
  · rw [hn]
    by_cases e : r' = r ∧ i' = i
    · rw [e.1, e.2] at hb
      exact hc k b hb
    · rw [(ho r' i' e).2.2] at hb
      exact a4 r' i' k b hb
  · rw [hn] at hj
    have e : ¬ (0 = r ∧ j = i) := fun e => hr e.1.symm
    obtain ⟨e1, e2, e3⟩ := ho 0 j e
    obtain ⟨h0, scr, h1, h2⟩ := a7 j hj
    refine ⟨h0, scr, ?_, ?_⟩
    · rw [oq _ (fun z => ?_)]
      · exact h1
      · have := (a1 r i hi hr).2
        omega
    · rw [e1, e2]
      exact h2
/-- a new cell: the next object of region r -/
def qr_up (ρ : Nat → Nat → Nat) (r i q : Nat) : Nat → Nat → Nat := fun a b => if a = r ∧ b = i then q else ρ a b
theorem qr_up_eq (ρ : Nat → Nat → Nat) (r i q : Nat) : qr_up ρ r i q r i = q := by simp [qr_up]
theorem qr_up_ne (ρ : Nat → Nat → Nat) {r i q a b : Nat} (h : ¬ (a = r ∧ b = i)) : qr_up ρ r i q a b = ρ a b := by simp only [qr_up, if_neg h]
theorem qr_up_le {n : Nat → Nat} (ρ : Nat → Nat → Nat) {r q : Nat} : ∀ a b, b < n a → qr_up ρ r (n r) q a b = ρ a b := fun a b hb => qr_up_ne ρ (fun e => by rw [e.1, e.2] at hb; omega)
theorem qa_R.new {D : va_G} {sz : Nat} {ρ : Nat → Nat → Nat} {h : qH} {s : State} {H H1 : Heap} {r : Nat} (a : qa_R D sz ρ h s H) (hr : r ≠ 0)
    (hat : qa_at D (qr_up ρ r (qg_n h r) H.size) h s H1 r (qg_n h r)) (oq : ∀ q : Nat, q < H.size → H1[q]? = H[q]?) (hz : H1.size = H.size + 1) : qa_R D sz (qr_up ρ r (qg_n h r) H.size) (qs_n h r) s H1 := by
  obtain ⟨a1, a2, a3, a4, a5, a6, a7⟩ := a
  have hold : ∀ r' i', i' < qg_n (qs_n h r) r' → (r' = r ∧ i' = qg_n h r) ∨ (i' < qg_n h r') := fun r' i' hi' => by
    rw [qnn] at hi'
    by_cases e : r' = r
    · subst e
      rw [if_pos rfl] at hi'
      rcases Nat.lt_or_ge i' (qg_n h r') with q | q
      · exact Or.inr q
      · exact Or.inl ⟨rfl, by omega⟩
    · rw [if_neg e] at hi'
      exact Or.inr hi'
  have hle : ∀ r', qg_n h r' ≤ qg_n (qs_n h r) r' := fun r' => by rw [qnn]; split <;> omega
  have hρ : ∀ r' i', i' < qg_n h r' → qr_up ρ r (qg_n h r) H.size r' i' = ρ r' i' := qr_up_le ρ
  refine ⟨fun r' i' hi' hr' => ?_, fun r' i' r2 i2 hr' hr2 hi' hi2 e => ?_, fun r' i' k hk => a3 r' i' k (Nat.le_trans (hle r') hk), fun r' i' k b hb => Nat.lt_of_lt_of_le (a4 r' i' k b hb) (hle _), a5, by rw [hz]; omega, fun j hj => ?_⟩
  · rcases hold r' i' hi' with ⟨e1, e2⟩ | hl
    · subst e1; subst e2
      refine ⟨hat.to rfl rfl rfl (fun k => rfl), ?_⟩
      rw [qr_up_eq]
      exact a6
    · refine ⟨?_, by rw [hρ r' i' hl]; exact (a1 r' i' hl hr').2⟩
      refine ((a1 r' i' hl hr').1.kept (oq _ (a1 r' i' hl hr').1.lt)).to (hρ r' i' hl) rfl rfl (fun k => qc_om hρ (fun b hb => a4 _ _ _ _ hb))
  · rcases hold r' i' hi' with ⟨e1, e2⟩ | hl <;> rcases hold r2 i2 hi2 with ⟨e3, e4⟩ | hl2
    · exact ⟨e1.trans e3.symm, e2.trans e4.symm⟩
    · rw [e1, e2, qr_up_eq, hρ r2 i2 hl2] at e
      have := (a1 r2 i2 hl2 hr2).1.lt
      omega
    · rw [e3, e4, qr_up_eq, hρ r' i' hl] at e
      have := (a1 r' i' hl hr').1.lt
      omega
    · rw [hρ r' i' hl, hρ r2 i2 hl2] at e
      exact a2 r' i' r2 i2 hr' hr2 hl hl2 e
  · rcases hold 0 j hj with ⟨e1, e2⟩ | hl
    · exact absurd e1.symm hr
    · obtain ⟨h0, scr, h1, h2⟩ := a7 j hl
      rw [hρ 0 j hl]
      exact ⟨h0, scr, by rw [oq _ (by omega)]; exact h1, h2⟩
