/-! Rows with the value read given by an equation -/
section VV
variable {y : MethodName} {cc : ByteArray} {nL : Nat} {ret : Option FieldType} {R : Room} {mc ms : Nat} {n0 : Nat → Nat} {Post : Option qV → qH → Prop} {pc : Nat} {L : List (Nat × qV)} {st : List qV} {h : qH} {cells slots : Nat} {r i c k idx : Nat}
theorem V_getiV (n : Nat) (c k : Nat) (hw : Cond.fieldLink y.cls idx (rg_T c k).1 (rg_T c k).2.1 (rg_T c k).2.2.1 ∈ lw_tbl) (hd : decode cc pc = .ok (.getfield idx, 3)) (hn : pc + 3 = n) (hk : rg_k r = .inl c) (hkN : k < rg_N c) (ht : rg_t c k = .int) (hr : r ≠ 0) {v : Int32} (hv : qg_i h r i k = v) (K : Vw y cc nL ret R mc ms n0 Post n L ((.inl v) :: st) h cells slots) : Vw y cc nL ret R mc ms n0 Post pc L ((.inr (.inr (some (r, i)))) :: st) h cells slots := by
  subst hv
  exact V_geti n c k hw hd hn hk hkN ht hr K
theorem V_getzV (n : Nat) (c k : Nat) (hw : Cond.fieldLink y.cls idx (rg_T c k).1 (rg_T c k).2.1 (rg_T c k).2.2.1 ∈ lw_tbl) (hd : decode cc pc = .ok (.getfield idx, 3)) (hn : pc + 3 = n) (hk : rg_k r = .inl c) (hkN : k < rg_N c) (ht : rg_t c k = .boolean) (hr : r ≠ 0) {v : Int32} (hv : qg_i h r i k = v) (K : Vw y cc nL ret R mc ms n0 Post n L ((.inl v) :: st) h cells slots) : Vw y cc nL ret R mc ms n0 Post pc L ((.inr (.inr (some (r, i)))) :: st) h cells slots := by
  subst hv
  exact V_getz n c k hw hd hn hk hkN ht hr K
theorem V_getlV (n : Nat) (c k : Nat) (hw : Cond.fieldLink y.cls idx (rg_T c k).1 (rg_T c k).2.1 (rg_T c k).2.2.1 ∈ lw_tbl) (hd : decode cc pc = .ok (.getfield idx, 3)) (hn : pc + 3 = n) (hk : rg_k r = .inl c) (hkN : k < rg_N c) (ht : rg_t c k = .long) (hr : r ≠ 0) {v : Int64} (hv : qg_l h r i k = v) (K : Vw y cc nL ret R mc ms n0 Post n L ((.inr (.inl v)) :: st) h cells slots) : Vw y cc nL ret R mc ms n0 Post pc L ((.inr (.inr (some (r, i)))) :: st) h cells slots := by
  subst hv
  exact V_getl n c k hw hd hn hk hkN ht hr K
theorem V_ialdV (n : Nat) {x : Int32} (j : Nat) (hd : decode cc pc = .ok (.iaload, 1)) (hn : pc + 1 = n) (hk : rg_k r = .inr .int) (hr : r ≠ 0) (hx : x = nI j) (hj : j < rg_n r) (hm : rg_n r < 2 ^ 31) {v : Int32} (hv : qg_i h r i j = v) (K : Vw y cc nL ret R mc ms n0 Post n L ((.inl v) :: st) h cells slots) : Vw y cc nL ret R mc ms n0 Post pc L (.inl x :: (.inr (.inr (some (r, i)))) :: st) h cells slots := by
  subst hv
  exact V_ialdN n j hd hn hk hr hx hj hm K
theorem V_zaldV (n : Nat) {x : Int32} (j : Nat) (hd : decode cc pc = .ok (.baload, 1)) (hn : pc + 1 = n) (hk : rg_k r = .inr .boolean) (hr : r ≠ 0) (hx : x = nI j) (hj : j < rg_n r) (hm : rg_n r < 2 ^ 31) {v : Int32} (hv : qg_i h r i j = v) (K : Vw y cc nL ret R mc ms n0 Post n L ((.inl v) :: st) h cells slots) : Vw y cc nL ret R mc ms n0 Post pc L (.inl x :: (.inr (.inr (some (r, i)))) :: st) h cells slots := by
  subst hv
  exact V_zaldN n j hd hn hk hr hx hj hm K
theorem V_laldV (n : Nat) {x : Int32} (j : Nat) (hd : decode cc pc = .ok (.laload, 1)) (hn : pc + 1 = n) (hk : rg_k r = .inr .long) (hr : r ≠ 0) (hx : x = nI j) (hj : j < rg_n r) (hm : rg_n r < 2 ^ 31) {v : Int64} (hv : qg_l h r i j = v) (K : Vw y cc nL ret R mc ms n0 Post n L ((.inr (.inl v)) :: st) h cells slots) : Vw y cc nL ret R mc ms n0 Post pc L (.inl x :: (.inr (.inr (some (r, i)))) :: st) h cells slots := by
  subst hv
  exact V_laldN n j hd hn hk hr hx hj hm K
theorem V_geti0 (n : Nat) (c k : Nat) (hw : Cond.fieldLink y.cls idx (rg_T c k).1 (rg_T c k).2.1 (rg_T c k).2.2.1 ∈ lw_tbl) (hd : decode cc pc = .ok (.getfield idx, 3)) (hn : pc + 3 = n) (hk : rg_k r = .inl c) (hkN : k < rg_N c) (ht : rg_t c k = .int) (hr : r ≠ 0) (K : Vw y cc nL ret R mc ms n0 Post n L ((.inl (qg_i h r i k)) :: st) h cells slots) : Vw y cc nL ret R mc ms n0 Post pc L ((.inr (.inr (some (r, i)))) :: st) h cells slots := V_geti n c k hw hd hn hk hkN ht hr K
end VV
