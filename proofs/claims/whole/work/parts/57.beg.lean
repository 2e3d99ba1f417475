/-! From the law's entry to its loop -/
theorem qa_J.of {A : Array Value} {U : State} (h : (Cond.arrayOver (.array .long)).before A U = true) : qa_J U := by
  unfold Cond.before Cond.holds at h
  simp only [Cond.value] at h
  cases h1 : U.vm.findClass (FieldType.array .long).toString with
  | none =>
    rw [h1] at h
    simp at h
  | some comp =>
    rw [h1, Option.bind_some] at h
    cases h2 : (U.vm.classes.findIdx? fun (x : Class) => match x.kind with | .array component _ => component == comp | _ => false) with
    | none =>
      exfalso
      have := (congrArg (fun o : Option Nat => (o.bind (fun c => (U.vm.classes[c]?).map fun (k : Class) => match k.kind with | .array _ ty => decide (ty = FieldType.array .long) && decide (U.vm.findClass ("[" ++ (FieldType.array .long).toString) = some c) | _ => false) == some true)) h2).symm.trans h
      simp at this
    | some c =>
      have h3 := (congrArg (fun o : Option Nat => (o.bind (fun c => (U.vm.classes[c]?).map fun (k : Class) => match k.kind with | .array _ ty => decide (ty = FieldType.array .long) && decide (U.vm.findClass ("[" ++ (FieldType.array .long).toString) = some c) | _ => false) == some true)) h2).symm.trans h
      obtain ⟨hlt, hpr, -⟩ := Array.findIdx?_eq_some_iff_getElem.mp h2
      have h4 : U.vm.classes[c]? = some U.vm.classes[c] := Array.getElem?_eq_getElem hlt
      rw [Option.bind_some, h4, Option.map_some] at h3
      refine ⟨comp, c, U.vm.classes[c], h1, h2, h4, ?_, ?_⟩
      · cases hk : U.vm.classes[c].kind with
        | array component ty =>
          rw [hk] at hpr h3
          simp at hpr h3
          rw [hpr, h3.1]
        | _ =>
          rw [hk] at hpr
          simp at hpr
      · cases hk : U.vm.classes[c].kind with
        | array component ty =>
          rw [hk] at h3
          simp at h3
          exact h3.2
        | _ =>
          rw [hk] at hpr
          simp at hpr
section BG
variable {n0 : Nat → Nat} {Post : Option qV → qH → Prop} {h : qH}
theorem LN_n {r : Nat} : LN (qs_n h r) = LN h := rfl
theorem lw_begin (B : B0 h) (h0 : 0 < qg_n h 0) (hL : LN h ≤ 4096) (hP : ∀ g, Post (some (.inl 1)) g) : Vw yL_law cL_law 4 (some .boolean) room_1 600000 7302250 n0 Post 0 [(0, .inr (.inr (some (0, 0))))] [] h 0 0 := by
  refine V_newI 3 1 7 dL_law_0 rfl rfl (by decide) (by decide) wk_L_7 wn_X7 wi_X7 (Nat.le_of_ble_eq_true rfl) (Nat.le_of_ble_eq_true rfl) (by decide) (B.1 1 (by decide)) ?_
  refine V_dup 4 dL_law_3 rfl ?_
  have h1 : 0 < qg_n (qs_n h 1) 0 := h0
  refine V_cI0v 7 ((ct_X7_init (h := qs_n h 1) (fun r h2 _ => by rw [qnn, if_neg (by omega)]; exact B.1 r (by omega))).keepV h1) cs_L_9 dL_law_4 rfl ⟨Nat.le_of_ble_eq_true rfl, Nat.le_of_ble_eq_true rfl⟩ (Nat.le_of_ble_eq_true rfl) ⟨Nat.le_of_ble_eq_true rfl, Nat.le_of_ble_eq_true rfl⟩ (fun h' hx hle => ?_)
  obtain ⟨hx, s1⟩ := hx
  have e1 : h' = g_7 h := hx
  subst e1
  refine V_astore_n 8 dL_law_7 rfl (by decide) ?_
  have h2 : 0 < qg_n (qs_n (g_7 h) 33) 0 := by
    rw [qnn, if_neg (by decide)]
    exact Nat.lt_of_lt_of_le h1 (hle 0)
  refine V_newI 11 33 8 dL_law_8 rfl rfl (by decide) (by decide) wk_L_10 wn_X8 wi_X8 (Nat.le_of_ble_eq_true rfl) (Nat.le_of_ble_eq_true rfl) (by decide) (g7_n B 33 (by decide)) ?_
  refine V_dup 12 dL_law_11 rfl ?_
  refine V_cI0v 15 ((ct_X8_init (h := qs_n (g_7 h) 33) (fun r h2 _ => by rw [qnn, if_neg (by omega)]; exact g7_n B r (by omega)) (fun k => by
    rw [fr_rn]
    unfold g_7
    rw [f7_ro (by decide)]
    exact (B.2 33 0 k (by decide)).2.2)).keepV h2) cs_L_12 dL_law_12 rfl ⟨Nat.le_of_ble_eq_true rfl, Nat.le_of_ble_eq_true rfl⟩ (Nat.le_of_ble_eq_true rfl) ⟨Nat.le_of_ble_eq_true rfl, Nat.le_of_ble_eq_true rfl⟩ (fun h' hx hle2 => ?_)
  obtain ⟨hx, s2⟩ := hx
  have e2 : h' = g_8 h := hx
  subst e2
  refine V_astore_n 16 dL_law_15 rfl (by decide) ?_
  refine V_iconst (v := 0) 17 dL_law_16 rfl (by decide) ?_
  refine V_istore_n 18 dL_law_17 rfl (by decide) ?_
  have hn : LN (g_8 h) = LN h := by rw [s2.1, LN_n, s1.1, LN_n]
  refine V_wide (c' := 300 + 8 * 0) (s' := 40000 + 418 * 0) (Nat.le_of_ble_eq_true rfl) (Nat.le_of_ble_eq_true rfl) ?_
  exact V_at (lw_loop hP 512 0 (g_8 h) (RC.init B) (Nat.lt_of_lt_of_le h2 (hle2 0)) (by rw [hn]; exact hL) (by decide) (by rw [hn]; omega)) ⟨rfl, rfl, rfl, rfl, trivial⟩
/-- the heap at the start: the script alone -/
def h_0 (L : Nat) (xs : Nat → Int32) : qH := (fun r => if r = 0 then 1 else 0, fun r i k => if r = 0 ∧ i = 0 then xs k else 0, fun r i k => if r = 0 ∧ i = 0 ∧ k = 0 then nL L else 0, fun _ _ _ => none)
theorem h0_b (L : Nat) (xs : Nat → Int32) : B0 (h_0 L xs) := ⟨fun r hr => if_neg hr, fun r i k hr => ⟨if_neg (fun z => hr z.1), if_neg (fun z => hr z.1), rfl⟩⟩
theorem h0_len {L : Nat} {xs : Nat → Int32} (hL : L ≤ 4096) : (qg_l (h_0 L xs) 0 0 0).toNatClampNeg = L := by
  show (nL L).toNatClampNeg = L
  unfold Int64.toNatClampNeg
  rw [nL_toInt (by omega)]
  omega
end BG
