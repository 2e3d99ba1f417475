/-! System.arraycopy of longs within one array -/
def qs_c (h : qH) (r i sp dp n : Nat) : qH := (h.1, h.2.1, fun a b c => if a = r ∧ b = i ∧ dp ≤ c ∧ c < dp + n then h.2.2.1 r i (sp + (c - dp)) else h.2.2.1 a b c, h.2.2.2)
theorem qnc (h : qH) (r i sp dp n : Nat) : qg_n (qs_c h r i sp dp n) = qg_n h := rfl
theorem qic (h : qH) (r i sp dp n : Nat) : qg_i (qs_c h r i sp dp n) = qg_i h := rfl
theorem qrc (h : qH) (r i sp dp n : Nat) : qg_r (qs_c h r i sp dp n) = qg_r h := rfl
theorem qlc (h : qH) (r i sp dp n a b c : Nat) : qg_l (qs_c h r i sp dp n) a b c = if a = r ∧ b = i ∧ dp ≤ c ∧ c < dp + n then qg_l h r i (sp + (c - dp)) else qg_l h a b c := rfl
section VC
variable {y : MethodName} {cc : ByteArray} {nL : Nat} {ret : Option FieldType} {R : Room} {mc ms : Nat} {n0 : Nat → Nat} {Post : Option qV → qH → Prop} {pc : Nat} {L : List (Nat × qV)} {st : List qV} {h : qH} {cells slots : Nat} {r i idx : Nat}
theorem V_copyl (n : Nat) {x1 x2 x3 : Int32} (sp dp N : Nat) (hd : decode cc pc = .ok (.invokestatic idx, 3)) (hn : pc + 3 = n) (hk : rg_k r = .inr .long) (hr : r ≠ 0) (hw1 : Cond.methodLink y.cls idx arraycopyName ∈ lw_tbl) (hw2 : Cond.native arraycopyName ∈ lw_tbl) (hw3 : Cond.static arraycopyName ∈ lw_tbl) (hw4 : Cond.initialized "java/lang/System" ∈ lw_tbl)
    (e1 : x1 = nI sp) (e2 : x2 = nI dp) (e3 : x3 = nI N) (h1 : sp + N ≤ rg_n r) (h2 : dp + N ≤ rg_n r) (hm : rg_n r < 2 ^ 31) (hf : 1 ≤ R.frames) (hlo : ((st.map (qc_v (fun _ _ => 0))).map fun v => v.category).sum + (nativeFrameWords "java/lang/System" "arraycopy" 5 + 11) ≤ R.locals)
    (K : Vw y cc nL ret R mc ms n0 Post n L st (qs_c h r i sp dp N) cells slots) : Vw y cc nL ret R mc ms n0 Post pc L (.inl x3 :: .inl x2 :: (.inr (.inr (some (r, i)))) :: .inl x1 :: (.inr (.inr (some (r, i)))) :: st) h cells slots := by
  subst hn; subst e1; subst e2; subst e3
  intro p l e s m args below meth c0 Q D sz ρ0 ρ H locs ls X S E
  have hi : i < qg_n h r := qk_h (qk_t (qk_t S.2.2.1)) (r, i) rfl
  obtain ⟨hat, hsz⟩ := S.2.2.2.1.1.1 r i hi hr
  obtain ⟨cA, a1, a2, a3⟩ := (qa_at_a hk).mp hat
  have a3 : H[ρ r i]? = some (vp_cell cA (rg_n r, .inr (.inl (qg_l h r i)))) := a3
  have c1 : (nI sp).toNatClampNeg = sp := nI_clamp (by omega)
  have c2 : (nI dp).toNatClampNeg = dp := nI_clamp (by omega)
  have c3 : (nI N).toNatClampNeg = N := nI_clamp (by omega)
  intro T hT Xs
  obtain ⟨-, k0, hk0, cm0, hkk0⟩ := a1 (rg_n r) (fun j => .long (qg_l h r i j))
  obtain ⟨vm', X', step⟩ := Xs.arraycopy X.1 X.2.2.2.1 (X.2.2.2.2.1 _ (gd_in hw1 rfl)) (X.2.2.2.2.1 _ (gd_in hw2 rfl)) (X.2.2.2.2.1 _ (gd_in hw3 rfl)) (X.2.2.2.2.1 _ (gd_in hw4 rfl)) (src := ρ r i) (dst := ρ r i) (cs := vp_cell cA (rg_n r, .inr (.inl (qg_l h r i)))) (cd := vp_cell cA (rg_n r, .inr (.inl (qg_l h r i)))) (srcPos := nI sp) (destPos := nI dp) (n := nI N) (by rw [hT]; exact a3) (by rw [hT]; exact a3)
    (fun _ z => by cases z) (fun _ z => by cases z) (fun z => by cases z) (fun z => by cases z) hk0 hk0 hkk0 hkk0 (by simp [refKind]) (nI_pos (by omega)) (nI_pos (by omega)) (nI_pos (by omega))
    (by rw [nI_toInt (by omega), nI_toInt (by omega)]; show ¬ _ > ((arrV cA (rg_n r) (fun j => .long (qg_l h r i j))).slots.size : Int); rw [arrV_size]; omega)
    (by rw [nI_toInt (by omega), nI_toInt (by omega)]; show ¬ _ > ((arrV cA (rg_n r) (fun j => .long (qg_l h r i j))).slots.size : Int); rw [arrV_size]; omega)
    (fun vm₁ _ j hj => by
      rw [c3] at hj
      have e : (vp_cell cA (rg_n r, .inr (.inl (qg_l h r i)))).slots.getD ((nI sp).toNatClampNeg + j) .null = .long (qg_l h r i ((nI sp).toNatClampNeg + j)) := by
        show (arrV cA (rg_n r) (fun j => .long (qg_l h r i j))).slots.getD _ _ = _
        rw [Array.getD_eq_getD_getElem?, arrV_read _ _ (by rw [c1]; omega)]
        rfl
      refine ⟨?_, ?_⟩
      · rw [e]; rfl
      · rw [e]; exact trivial)
    (g := F0 m pc ls (.int (nI N) :: .int (nI dp) :: .ref (ρ r i) :: .int (nI sp) :: .ref (ρ r i) :: st.map (qc_v ρ))) rfl (by rw [X.2.2.1]; exact S.2.1.1.1) (rest := st.map (qc_v ρ)) rfl (by rw [X.2.1]; exact hd) hf (by rw [qcat_sum]; show 2 * 0 + _ + _ ≤ _; omega)
  have e1 : copied (vp_cell cA (rg_n r, .inr (.inl (qg_l h r i)))) (vp_cell cA (rg_n r, .inr (.inl (qg_l h r i)))) (nI sp) (nI dp) (nI N) = vp_cell cA (rg_n r, .inr (.inl (va_cpy (qg_l h r i) (qg_l h r i) (nI sp).toNatClampNeg (nI dp).toNatClampNeg (nI N).toNatClampNeg))) := va_copied (fun z => .long z) cA cA (qg_l h r i) (qg_l h r i) (by rw [c1, c3]; exact h1)
  rw [c1, c2, c3] at e1
  rw [e1] at X' step
  have hl : ρ r i < H.size := (Array.getElem?_eq_some_iff.mp a3).1
  have oq : ∀ q : Nat, q ≠ ρ r i → (H.setIfInBounds (ρ r i) (vp_cell cA (rg_n r, .inr (.inl (va_cpy (qg_l h r i) (qg_l h r i) sp dp N)))))[q]? = H[q]? := fun q hq => by simp [Array.getElem?_setIfInBounds, Ne.symm hq]
  have hnew : qa_at D ρ (qs_c h r i sp dp N) s (H.setIfInBounds (ρ r i) (vp_cell cA (rg_n r, .inr (.inl (va_cpy (qg_l h r i) (qg_l h r i) sp dp N))))) r i := (qa_at_a hk).mpr ⟨cA, a1, a2, by
    have e9 : va_cpy (qg_l h r i) (qg_l h r i) sp dp N = qg_l (qs_c h r i sp dp N) r i := funext fun k => by simp [va_cpy, qlc]
    rw [e9]
    simp [hl, qf_a]⟩
  have hR := S.2.2.2.1.1.upd (h' := qs_c h r i sp dp N) hr hi rfl (fun r' i' ne => ⟨rfl, funext fun k => by rw [qlc, if_neg (fun z => ne ⟨z.1, z.2.1⟩)], rfl⟩) (fun k b hb => S.2.2.2.1.1.2.2.2.1 _ _ _ _ hb) hnew oq (by simp)
  obtain ⟨t, b1, b2⟩ := K p l e s m args below meth c0 Q D sz ρ0 ρ _ _ ls X ⟨S.1, S.2.1, qk_t (qk_t (qk_t (qk_t (qk_t S.2.2.1)))), ⟨hR, S.2.2.2.1.2⟩, ⟨by simp; exact S.2.2.2.2.1.1, fun q g1 g2 => by
      rw [oq q (fun e => g2 (by rw [e]; exact hsz))]
      exact S.2.2.2.2.1.2.1 q g1 g2, fun q hq => by
      rcases List.mem_append.mp hq with z | z
      · exact S.2.2.2.2.1.2.2 q z
      · obtain ⟨z, -, hz⟩ := List.mem_map.mp z
        rw [← hz]
        exact hsz⟩, S.2.2.2.2.2⟩ E _ (by rw [← hT]; rfl) X'
  exact ⟨t, step t b1, b2⟩
end VC
theorem nw_ac : Cond.native arraycopyName ∈ lw_tbl := tb_at 817 (by decide +kernel)
