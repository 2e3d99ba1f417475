/-! The abstract machine: values, heaps by regions, what a frame stands for. -/
abbrev qV : Type := Int32 ⊕ (Int64 ⊕ Option (Nat × Nat))
abbrev qH : Type := (Nat → Nat) × (Nat → Nat → Nat → Int32) × (Nat → Nat → Nat → Int64) × (Nat → Nat → Nat → Option (Nat × Nat))
abbrev qv_i (x : Int32) : qV := .inl x
abbrev qv_l (x : Int64) : qV := .inr (.inl x)
abbrev qv_r (x : Option (Nat × Nat)) : qV := .inr (.inr x)
def qg_n (h : qH) : Nat → Nat := h.1
def qg_i (h : qH) : Nat → Nat → Nat → Int32 := h.2.1
def qg_l (h : qH) : Nat → Nat → Nat → Int64 := h.2.2.1
def qg_r (h : qH) : Nat → Nat → Nat → Option (Nat × Nat) := h.2.2.2
def qs_i (h : qH) (r i k : Nat) (x : Int32) : qH := (h.1, fun a b c => if a = r ∧ b = i ∧ c = k then x else h.2.1 a b c, h.2.2.1, h.2.2.2)
def qs_l (h : qH) (r i k : Nat) (x : Int64) : qH := (h.1, h.2.1, fun a b c => if a = r ∧ b = i ∧ c = k then x else h.2.2.1 a b c, h.2.2.2)
def qs_r (h : qH) (r i k : Nat) (x : Option (Nat × Nat)) : qH := (h.1, h.2.1, h.2.2.1, fun a b c => if a = r ∧ b = i ∧ c = k then x else h.2.2.2 a b c)
def qs_n (h : qH) (r : Nat) : qH := (fun a => if a = r then h.1 a + 1 else h.1 a, h.2.1, h.2.2.1, h.2.2.2)
theorem qni (h : qH) (r i k : Nat) (x : Int32) : qg_n (qs_i h r i k x) = qg_n h := rfl
theorem qnl (h : qH) (r i k : Nat) (x : Int64) : qg_n (qs_l h r i k x) = qg_n h := rfl
theorem qnr (h : qH) (r i k : Nat) (x : Option (Nat × Nat)) : qg_n (qs_r h r i k x) = qg_n h := rfl
theorem qnn (h : qH) (r a : Nat) : qg_n (qs_n h r) a = if a = r then qg_n h a + 1 else qg_n h a := rfl
theorem qii (h : qH) (r i k : Nat) (x : Int32) (a b c : Nat) : qg_i (qs_i h r i k x) a b c = if a = r ∧ b = i ∧ c = k then x else qg_i h a b c := rfl
theorem qil (h : qH) (r i k : Nat) (x : Int64) : qg_i (qs_l h r i k x) = qg_i h := rfl
theorem qir (h : qH) (r i k : Nat) (x : Option (Nat × Nat)) : qg_i (qs_r h r i k x) = qg_i h := rfl
theorem qin (h : qH) (r : Nat) : qg_i (qs_n h r) = qg_i h := rfl
theorem qli (h : qH) (r i k : Nat) (x : Int32) : qg_l (qs_i h r i k x) = qg_l h := rfl
theorem qll (h : qH) (r i k : Nat) (x : Int64) (a b c : Nat) : qg_l (qs_l h r i k x) a b c = if a = r ∧ b = i ∧ c = k then x else qg_l h a b c := rfl
theorem qlr (h : qH) (r i k : Nat) (x : Option (Nat × Nat)) : qg_l (qs_r h r i k x) = qg_l h := rfl
theorem qln (h : qH) (r : Nat) : qg_l (qs_n h r) = qg_l h := rfl
theorem qri (h : qH) (r i k : Nat) (x : Int32) : qg_r (qs_i h r i k x) = qg_r h := rfl
theorem qrl (h : qH) (r i k : Nat) (x : Int64) : qg_r (qs_l h r i k x) = qg_r h := rfl
theorem qrr (h : qH) (r i k : Nat) (x : Option (Nat × Nat)) (a b c : Nat) : qg_r (qs_r h r i k x) a b c = if a = r ∧ b = i ∧ c = k then x else qg_r h a b c := rfl
theorem qrn (h : qH) (r : Nat) : qg_r (qs_n h r) = qg_r h := rfl
/-- a value on the machine -/
def qc_o (ρ : Nat → Nat → Nat) (o : Option (Nat × Nat)) : Option Nat := o.map (fun a => ρ a.1 a.2)
def qc_v (ρ : Nat → Nat → Nat) : qV → Value
  | .inl x => .int x
  | .inr (.inl x) => .long x
  | .inr (.inr o) => va_rf (qc_o ρ o)
/-- every reference is to a made object -/
def qk_v (n : Nat → Nat) : qV → Prop
  | .inl _ => True
  | .inr (.inl _) => True
  | .inr (.inr o) => ∀ a, o = some a → a.2 < n a.1
def qk_l (n : Nat → Nat) (st : List qV) : Prop := ∀ v ∈ st, qk_v n v
def qk_L (n : Nat → Nat) (L : List (Nat × qV)) : Prop := ∀ q ∈ L, qk_v n q.2
theorem qk_nil {n : Nat → Nat} : qk_l n [] := fun _ h => by cases h
theorem qk_c {n : Nat → Nat} {v : qV} {st : List qV} (h1 : qk_v n v) (h2 : qk_l n st) : qk_l n (v :: st) := fun w hw => by
  rcases List.mem_cons.mp hw with rfl | h
  · exact h1
  · exact h2 w h
theorem qk_h {n : Nat → Nat} {v : qV} {st : List qV} (h : qk_l n (v :: st)) : qk_v n v := h v List.mem_cons_self
theorem qk_t {n : Nat → Nat} {v : qV} {st : List qV} (h : qk_l n (v :: st)) : qk_l n st := fun w hw => h w (List.mem_cons_of_mem _ hw)
theorem qk_vm {n n' : Nat → Nat} (hn : ∀ r, n r ≤ n' r) {v : qV} (h : qk_v n v) : qk_v n' v := by
  rcases v with x | x | o
  · trivial
  · trivial
  · intro a ha
    exact Nat.lt_of_lt_of_le (h a ha) (hn a.1)
theorem qk_lm {n n' : Nat → Nat} (hn : ∀ r, n r ≤ n' r) {st : List qV} (h : qk_l n st) : qk_l n' st := fun v hv => qk_vm hn (h v hv)
theorem qk_Lm {n n' : Nat → Nat} (hn : ∀ r, n r ≤ n' r) {L : List (Nat × qV)} (h : qk_L n L) : qk_L n' L := fun v hv => qk_vm hn (h v hv)
/-- another map of addresses that says the same of what is made -/
theorem qc_vm {n : Nat → Nat} {ρ ρ' : Nat → Nat → Nat} (hρ : ∀ r i, i < n r → ρ' r i = ρ r i) {v : qV} (h : qk_v n v) : qc_v ρ' v = qc_v ρ v := by
  rcases v with x | x | o
  · rfl
  · rfl
  · cases o with
    | none => rfl
    | some a =>
      show Value.ref (ρ' a.1 a.2) = Value.ref (ρ a.1 a.2)
      rw [hρ a.1 a.2 (h a rfl)]
theorem qc_lm {n : Nat → Nat} {ρ ρ' : Nat → Nat → Nat} (hρ : ∀ r i, i < n r → ρ' r i = ρ r i) {st : List qV} (h : qk_l n st) : st.map (qc_v ρ') = st.map (qc_v ρ) := by
  apply List.map_congr_left
  intro v hv
  exact qc_vm hρ (h v hv)
theorem qc_Lm {n : Nat → Nat} {ρ ρ' : Nat → Nat → Nat} (hρ : ∀ r i, i < n r → ρ' r i = ρ r i) {L : List (Nat × qV)} (h : qk_L n L) : L.map (fun q => (q.1, qc_v ρ' q.2)) = L.map (fun q => (q.1, qc_v ρ q.2)) := by
  apply List.map_congr_left
  intro v hv
  rw [qc_vm hρ (h v hv)]
theorem qc_om {n : Nat → Nat} {ρ ρ' : Nat → Nat → Nat} (hρ : ∀ r i, i < n r → ρ' r i = ρ r i) {o : Option (Nat × Nat)} (h : ∀ a, o = some a → a.2 < n a.1) : qc_o ρ' o = qc_o ρ o := by
  cases o with
  | none => rfl
  | some a =>
    show some (ρ' a.1 a.2) = some (ρ a.1 a.2)
    rw [hρ a.1 a.2 (h a rfl)]
/-- what an object's field, an array's place holds -/
def qf_v (ρ : Nat → Nat → Nat) (h : qH) (ty : FieldType) (r i k : Nat) : Value := match ty with
  | .long => .long (qg_l h r i k)
  | .object _ => va_rf (qc_o ρ (qg_r h r i k))
  | .array _ => va_rf (qc_o ρ (qg_r h r i k))
  | .float => .null
  | .double => .null
  | _ => .int (qg_i h r i k)
def qf_a (ρ : Nat → Nat → Nat) (h : qH) (ty : FieldType) (r i : Nat) : (Nat → Int32) ⊕ (Nat → Int64) ⊕ (Nat → UInt32) ⊕ (Nat → UInt64) ⊕ (Nat → Option Nat) := match ty with
  | .long => .inr (.inl (qg_l h r i))
  | .object _ => .inr (.inr (.inr (.inr (fun k => qc_o ρ (qg_r h r i k)))))
  | .array _ => .inr (.inr (.inr (.inr (fun k => qc_o ρ (qg_r h r i k)))))
  | _ => .inl (qg_i h r i)
