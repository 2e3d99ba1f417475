/-! The reference: credits used -/
def bst (cl : Nat → Int32) (cf : Nat → Int64) (p : Int32) : Nat → Option Nat
  | 0 => none
  | k + 1 => match bst cl cf p k with
    | none => if p ≤ cl k ∧ 0 < cf k then some k else none
    | some b => if (p ≤ cl k ∧ 0 < cf k) ∧ cl k < cl b then some k else some b
theorem bst_some {cl : Nat → Int32} {cf : Nat → Int64} {p : Int32} : ∀ {n b : Nat}, bst cl cf p n = some b → b < n ∧ p ≤ cl b ∧ 0 < cf b
  | 0, b, h => by cases h
  | n + 1, b, h => by
    unfold bst at h
    cases hb : bst cl cf p n with
    | none =>
      rw [hb] at h
      dsimp only at h
      split at h
      · rename_i q
        cases h
        exact ⟨Nat.lt_succ_self _, q⟩
      · cases h
    | some c =>
      rw [hb] at h
      dsimp only at h
      obtain ⟨h1, h2⟩ := bst_some hb
      split at h
      · rename_i q
        cases h
        exact ⟨Nat.lt_succ_self _, q.1⟩
      · cases h
        exact ⟨Nat.lt_succ_of_lt h1, h2⟩
theorem bst_none {cl : Nat → Int32} {cf : Nat → Int64} {p : Int32} : ∀ {n : Nat}, bst cl cf p n = none → ∀ k, k < n → ¬ (p ≤ cl k ∧ 0 < cf k)
  | 0, _, k, hk => absurd hk (Nat.not_lt_zero k)
  | n + 1, h, k, hk => by
    unfold bst at h
    cases hb : bst cl cf p n with
    | none =>
      rw [hb] at h
      dsimp only at h
      split at h
      · cases h
      · rename_i q
        rcases Nat.lt_or_ge k n with z | z
        · exact bst_none hb k z
        · have : k = n := by omega
          subst this
          exact q
    | some c =>
      rw [hb] at h
      dsimp only at h
      split at h <;> cases h
/-- how many have something left -/
def cpn (cl : Nat → Int32) (cf : Nat → Int64) (p : Int32) : Nat → Nat
  | 0 => 0
  | n + 1 => cpn cl cf p n + (if p ≤ cl n ∧ 0 < cf n then 1 else 0)
theorem cpn_none {cl : Nat → Int32} {cf : Nat → Int64} {p : Int32} : ∀ {n : Nat}, cpn cl cf p n = 0 → bst cl cf p n = none
  | 0, _ => rfl
  | n + 1, h => by
    unfold cpn at h
    have h1 := cpn_none (cl := cl) (cf := cf) (p := p) (n := n) (by omega)
    unfold bst
    rw [h1]
    dsimp only
    split at h
    · omega
    · rename_i q
      rw [if_neg q]
theorem cpn_congr {cl : Nat → Int32} {cf cf' : Nat → Int64} {p : Int32} : ∀ {n : Nat}, (∀ k, k < n → cf' k = cf k) → cpn cl cf' p n = cpn cl cf p n
  | 0, _ => rfl
  | n + 1, h => by
    unfold cpn
    rw [cpn_congr (fun k hk => h k (by omega)), h n (by omega)]
theorem cpn_dec {cl : Nat → Int32} {cf cf' : Nat → Int64} {p : Int32} {b : Nat} (h1 : ∀ k, k ≠ b → cf' k = cf k) (h2 : p ≤ cl b ∧ 0 < cf b) (h3 : ¬ 0 < cf' b) : ∀ {n : Nat}, b < n → cpn cl cf' p n + 1 = cpn cl cf p n
  | 0, h => absurd h (Nat.not_lt_zero b)
  | n + 1, h => by
    unfold cpn
    rcases Nat.lt_or_ge b n with z | z
    · rw [← cpn_dec h1 h2 h3 z, h1 n (by omega)]
      omega
    · have : b = n := by omega
      subst this
      rw [cpn_congr (fun k hk => h1 k (by omega)), if_pos h2, if_neg (fun q => h3 q.2)]
section RM
variable {h : qH}
def bi (t : Nat) : Option Nat → Int32
  | none => -1
  | some b => nI (40 * t + b)
def m_cl (g : qH) (t : Nat) : Nat → Int32 := fun k => qg_i g 52 0 (40 * t + k)
def m_cf (g : qH) (t : Nat) : Nat → Int64 := fun k => qg_l g 51 0 (40 * t + k)
theorem lp_X8_best {g : qH} {t nc : Nat} {p : Int32} {s : Int64} (hS : SHR g) (ht : t < 6) (hc : qg_i g 50 0 t = nI nc) (hnc : nc ≤ 40) {n0 : Nat → Nat} {Post : Option qV → qH → Prop}
    (K : Vw yX8_useCredits cX8_useCredits 11 none (qrm 1 27 0 0) 0 0 n0 Post 103 [(0, .inr (.inr (some (33, 0)))), (1, .inl (nI t)), (2, .inl p), (5, .inr (.inl s)), (8, .inl (bi t (bst (m_cl g t) (m_cf g t) p nc)))] [] g 0 0) :
    ∀ (m k : Nat), k + m = nc → Vw yX8_useCredits cX8_useCredits 11 none (qrm 1 27 0 0) 0 0 n0 Post 31 [(0, .inr (.inr (some (33, 0)))), (1, .inl (nI t)), (2, .inl p), (5, .inr (.inl s)), (8, .inl (bi t (bst (m_cl g t) (m_cf g t) p k))), (9, .inl (nI (40 * t + k)))] [] g 0 0 := by
  have e4 : (40 : Int32) * nI t + nI nc = nI (40 * t + nc) := by rw [show (40 : Int32) = nI 40 from rfl, pk_mul, nI_add]
  intro m
  induction m with
  | zero =>
    intro k hk
    have hk : k = nc := by omega
    subst hk
    refine V_iload 33 dX8_useCredits_31 rfl rfl ?_
    refine V_bipush (v := 40) 35 dX8_useCredits_33 rfl (by decide) ?_
    refine V_iload_n 36 dX8_useCredits_35 rfl rfl ?_
    refine V_imul 37 dX8_useCredits_36 rfl ?_
    refine V_aload_n 38 dX8_useCredits_37 rfl rfl ?_
    refine V_getR 41 8 20 fl_X8_143 dX8_useCredits_38 rfl rfl (by decide) (Or.inr ⟨_, rfl⟩) (by decide) (sr_20 hS) ?_
    refine V_iload_n 42 dX8_useCredits_41 rfl rfl ?_
    refine V_ialdV 43 (_) dX8_useCredits_42 rfl rfl (by decide) rfl (show _ < 6 by omega) (by decide) hc ?_
    refine V_iadd 44 dX8_useCredits_43 rfl ?_
    rw [e4]
    refine V_icmp_ge 103 47 dX8_useCredits_44 rfl rfl (fun c_44 => ?_) (fun c_44 => ?_)
    · skip
      exact V_at K ⟨rfl, rfl, rfl, rfl, rfl, trivial⟩
    · skip
      exact absurd (nI_le (Nat.le_refl _) (by omega)) c_44
  | succ m ih =>
    intro k hk
    have hnx : ∀ o, o = bst (m_cl g t) (m_cf g t) p (k + 1) → Vw yX8_useCredits cX8_useCredits 11 none (qrm 1 27 0 0) 0 0 n0 Post 97 [(0, .inr (.inr (some (33, 0)))), (1, .inl (nI t)), (2, .inl p), (5, .inr (.inl s)), (8, .inl (bi t o)), (9, .inl (nI (40 * t + k)))] [] g 0 0 := by
      intro o ho
      subst ho
      refine V_iincN 100 dX8_useCredits_97 rfl rfl (by decide) ?_
      refine V_goto 31 dX8_useCredits_100 rfl ?_
      exact V_at (ih (k + 1) (by omega)) ⟨rfl, rfl, rfl, rfl, rfl, rfl, trivial⟩
    cases hb : bst (m_cl g t) (m_cf g t) p k with
    | none =>
      refine V_iload 33 dX8_useCredits_31 rfl rfl ?_
      refine V_bipush (v := 40) 35 dX8_useCredits_33 rfl (by decide) ?_
      refine V_iload_n 36 dX8_useCredits_35 rfl rfl ?_
      refine V_imul 37 dX8_useCredits_36 rfl ?_
      refine V_aload_n 38 dX8_useCredits_37 rfl rfl ?_
      refine V_getR 41 8 20 fl_X8_143 dX8_useCredits_38 rfl rfl (by decide) (Or.inr ⟨_, rfl⟩) (by decide) (sr_20 hS) ?_
      refine V_iload_n 42 dX8_useCredits_41 rfl rfl ?_
      refine V_ialdV 43 (_) dX8_useCredits_42 rfl rfl (by decide) rfl (show _ < 6 by omega) (by decide) hc ?_
      refine V_iadd 44 dX8_useCredits_43 rfl ?_
      rw [e4]
      refine V_icmp_ge 103 47 dX8_useCredits_44 rfl rfl (fun c_44 => ?_) (fun c_44 => ?_)
      · skip
        exact absurd c_44 (nI_ge (by omega) (by omega))
      · skip
        refine V_aload_n 48 dX8_useCredits_47 rfl rfl ?_
        refine V_getR 51 8 22 fl_X8_149 dX8_useCredits_48 rfl rfl (by decide) (Or.inr ⟨_, rfl⟩) (by decide) (sr_22 hS) ?_
        refine V_iload 53 dX8_useCredits_51 rfl rfl ?_
        refine V_ialdN 54 (_) dX8_useCredits_53 rfl rfl (by decide) rfl (show _ < 240 by omega) (by decide) ?_
        refine V_iload_n 55 dX8_useCredits_54 rfl rfl ?_
        refine V_icmp_lt 97 58 dX8_useCredits_55 rfl rfl (fun c_55 => ?_) (fun c_55 => ?_)
        · skip
          first
            | (refine V_at (hnx none ?_) ⟨rfl, rfl, rfl, rfl, rfl, rfl, trivial⟩; rw [bst, hb]; dsimp only; rw [if_neg]; intro q; have q1 := q.1; have q2 := q.2; simp only [m_cl, m_cf] at q1 q2; grind)
            | (refine V_at (hnx (some k) ?_) ⟨rfl, rfl, rfl, rfl, rfl, rfl, trivial⟩; rw [bst, hb]; dsimp only; rw [if_pos]; simp only [m_cl, m_cf]; grind)
        · skip
          refine V_aload_n 59 dX8_useCredits_58 rfl rfl ?_
          refine V_getR 62 8 21 fl_X8_146 dX8_useCredits_59 rfl rfl (by decide) (Or.inr ⟨_, rfl⟩) (by decide) (sr_21 hS) ?_
          refine V_iload 64 dX8_useCredits_62 rfl rfl ?_
          refine V_laldN 65 (_) dX8_useCredits_64 rfl rfl (by decide) rfl (show _ < 240 by omega) (by decide) ?_
          refine V_lconst (v := 0) 66 dX8_useCredits_65 rfl (by decide) ?_
          refine V_lcmp 67 dX8_useCredits_66 rfl ?_
          refine V_if_le 97 70 dX8_useCredits_67 rfl rfl (fun c_67 => ?_) (fun c_67 => ?_)
          · (rw [lg_le] at c_67)
            first
              | (refine V_at (hnx none ?_) ⟨rfl, rfl, rfl, rfl, rfl, rfl, trivial⟩; rw [bst, hb]; dsimp only; rw [if_neg]; intro q; have q1 := q.1; have q2 := q.2; simp only [m_cl, m_cf] at q1 q2; grind)
              | (refine V_at (hnx (some k) ?_) ⟨rfl, rfl, rfl, rfl, rfl, rfl, trivial⟩; rw [bst, hb]; dsimp only; rw [if_pos]; simp only [m_cl, m_cf]; grind)
          · (rw [lg_le] at c_67)
            refine V_iload 72 dX8_useCredits_70 rfl rfl ?_
            refine V_iconst (v := (-1)) 73 dX8_useCredits_72 rfl (by decide) ?_
            refine V_icmp_eq 93 76 dX8_useCredits_73 rfl rfl (fun c_73 => ?_) (fun c_73 => ?_)
            · skip
              refine V_iload 95 dX8_useCredits_93 rfl rfl ?_
              refine V_istore 97 dX8_useCredits_95 rfl (by decide) ?_
              first
                | (refine V_at (hnx none ?_) ⟨rfl, rfl, rfl, rfl, rfl, rfl, trivial⟩; rw [bst, hb]; dsimp only; rw [if_neg]; intro q; have q1 := q.1; have q2 := q.2; simp only [m_cl, m_cf] at q1 q2; grind)
                | (refine V_at (hnx (some k) ?_) ⟨rfl, rfl, rfl, rfl, rfl, rfl, trivial⟩; rw [bst, hb]; dsimp only; rw [if_pos]; simp only [m_cl, m_cf]; grind)
            · skip
              exact absurd rfl c_73
    | some b =>
      obtain ⟨b1, b2, b3⟩ := bst_some hb
      refine V_iload 33 dX8_useCredits_31 rfl rfl ?_
      refine V_bipush (v := 40) 35 dX8_useCredits_33 rfl (by decide) ?_
      refine V_iload_n 36 dX8_useCredits_35 rfl rfl ?_
      refine V_imul 37 dX8_useCredits_36 rfl ?_
      refine V_aload_n 38 dX8_useCredits_37 rfl rfl ?_
      refine V_getR 41 8 20 fl_X8_143 dX8_useCredits_38 rfl rfl (by decide) (Or.inr ⟨_, rfl⟩) (by decide) (sr_20 hS) ?_
      refine V_iload_n 42 dX8_useCredits_41 rfl rfl ?_
      refine V_ialdV 43 (_) dX8_useCredits_42 rfl rfl (by decide) rfl (show _ < 6 by omega) (by decide) hc ?_
      refine V_iadd 44 dX8_useCredits_43 rfl ?_
      rw [e4]
      refine V_icmp_ge 103 47 dX8_useCredits_44 rfl rfl (fun c_44 => ?_) (fun c_44 => ?_)
      · skip
        exact absurd c_44 (nI_ge (by omega) (by omega))
      · skip
        refine V_aload_n 48 dX8_useCredits_47 rfl rfl ?_
        refine V_getR 51 8 22 fl_X8_149 dX8_useCredits_48 rfl rfl (by decide) (Or.inr ⟨_, rfl⟩) (by decide) (sr_22 hS) ?_
        refine V_iload 53 dX8_useCredits_51 rfl rfl ?_
        refine V_ialdN 54 (_) dX8_useCredits_53 rfl rfl (by decide) rfl (show _ < 240 by omega) (by decide) ?_
        refine V_iload_n 55 dX8_useCredits_54 rfl rfl ?_
        refine V_icmp_lt 97 58 dX8_useCredits_55 rfl rfl (fun c_55 => ?_) (fun c_55 => ?_)
        · skip
          first
            | (refine V_at (hnx (some b) ?_) ⟨rfl, rfl, rfl, rfl, rfl, rfl, trivial⟩; rw [bst, hb]; dsimp only; rw [if_neg]; intro q; have q1 := q.1.1; have q2 := q.1.2; have q3 := q.2; simp only [m_cl, m_cf] at q1 q2 q3; grind)
            | (refine V_at (hnx (some k) ?_) ⟨rfl, rfl, rfl, rfl, rfl, rfl, trivial⟩; rw [bst, hb]; dsimp only; rw [if_pos]; simp only [m_cl, m_cf]; grind)
        · skip
          refine V_aload_n 59 dX8_useCredits_58 rfl rfl ?_
          refine V_getR 62 8 21 fl_X8_146 dX8_useCredits_59 rfl rfl (by decide) (Or.inr ⟨_, rfl⟩) (by decide) (sr_21 hS) ?_
          refine V_iload 64 dX8_useCredits_62 rfl rfl ?_
          refine V_laldN 65 (_) dX8_useCredits_64 rfl rfl (by decide) rfl (show _ < 240 by omega) (by decide) ?_
          refine V_lconst (v := 0) 66 dX8_useCredits_65 rfl (by decide) ?_
          refine V_lcmp 67 dX8_useCredits_66 rfl ?_
          refine V_if_le 97 70 dX8_useCredits_67 rfl rfl (fun c_67 => ?_) (fun c_67 => ?_)
          · (rw [lg_le] at c_67)
            first
              | (refine V_at (hnx (some b) ?_) ⟨rfl, rfl, rfl, rfl, rfl, rfl, trivial⟩; rw [bst, hb]; dsimp only; rw [if_neg]; intro q; have q1 := q.1.1; have q2 := q.1.2; have q3 := q.2; simp only [m_cl, m_cf] at q1 q2 q3; grind)
              | (refine V_at (hnx (some k) ?_) ⟨rfl, rfl, rfl, rfl, rfl, rfl, trivial⟩; rw [bst, hb]; dsimp only; rw [if_pos]; simp only [m_cl, m_cf]; grind)
          · (rw [lg_le] at c_67)
            refine V_iload 72 dX8_useCredits_70 rfl rfl ?_
            refine V_iconst (v := (-1)) 73 dX8_useCredits_72 rfl (by decide) ?_
            refine V_icmp_eq 93 76 dX8_useCredits_73 rfl rfl (fun c_73 => ?_) (fun c_73 => ?_)
            · skip
              exact absurd c_73 (nI_ne_m1 (by omega))
            · skip
              refine V_aload_n 77 dX8_useCredits_76 rfl rfl ?_
              refine V_getR 80 8 22 fl_X8_149 dX8_useCredits_77 rfl rfl (by decide) (Or.inr ⟨_, rfl⟩) (by decide) (sr_22 hS) ?_
              refine V_iload 82 dX8_useCredits_80 rfl rfl ?_
              refine V_ialdN 83 (_) dX8_useCredits_82 rfl rfl (by decide) rfl (show _ < 240 by omega) (by decide) ?_
              refine V_aload_n 84 dX8_useCredits_83 rfl rfl ?_
              refine V_getR 87 8 22 fl_X8_149 dX8_useCredits_84 rfl rfl (by decide) (Or.inr ⟨_, rfl⟩) (by decide) (sr_22 hS) ?_
              refine V_iload 89 dX8_useCredits_87 rfl rfl ?_
              refine V_ialdN 90 (40 * t + b) dX8_useCredits_89 rfl rfl (by decide) rfl (show _ < 240 by omega) (by decide) ?_
              refine V_icmp_ge 97 93 dX8_useCredits_90 rfl rfl (fun c_90 => ?_) (fun c_90 => ?_)
              · skip
                first
                  | (refine V_at (hnx (some b) ?_) ⟨rfl, rfl, rfl, rfl, rfl, rfl, trivial⟩; rw [bst, hb]; dsimp only; rw [if_neg]; intro q; have q1 := q.1.1; have q2 := q.1.2; have q3 := q.2; simp only [m_cl, m_cf] at q1 q2 q3; grind)
                  | (refine V_at (hnx (some k) ?_) ⟨rfl, rfl, rfl, rfl, rfl, rfl, trivial⟩; rw [bst, hb]; dsimp only; rw [if_pos]; simp only [m_cl, m_cf]; grind)
              · skip
                refine V_iload 95 dX8_useCredits_93 rfl rfl ?_
                refine V_istore 97 dX8_useCredits_95 rfl (by decide) ?_
                first
                  | (refine V_at (hnx (some b) ?_) ⟨rfl, rfl, rfl, rfl, rfl, rfl, trivial⟩; rw [bst, hb]; dsimp only; rw [if_neg]; intro q; have q1 := q.1.1; have q2 := q.1.2; have q3 := q.2; simp only [m_cl, m_cf] at q1 q2 q3; grind)
                  | (refine V_at (hnx (some k) ?_) ⟨rfl, rfl, rfl, rfl, rfl, rfl, trivial⟩; rw [bst, hb]; dsimp only; rw [if_pos]; simp only [m_cl, m_cf]; grind)
def uc1 (g : qH) (t ni lc b : Nat) (s : Int64) : qH := qs_l (m_line g ni lc 5 (-1) 0 (-(m_min s (m_cf g t b)))) 51 0 (40 * t + b) (m_cf g t b - m_min s (m_cf g t b))
def ucr (t nc ni : Nat) (p : Int32) : Nat → qH → Int64 → Nat → qH
  | 0, g, _, _ => g
  | f + 1, g, s, lc => if 0 < s then (match bst (m_cl g t) (m_cf g t) p nc with
    | none => g
    | some b => ucr t nc ni p f (uc1 g t ni lc b s) (s - m_min s (m_cf g t b)) (lc + 1)) else g
theorem ucr_stop {t nc ni f lc : Nat} {p : Int32} {g : qH} {s : Int64} (hs : ¬ 0 < s) : ucr t nc ni p f g s lc = g := by
  cases f with
  | zero => rfl
  | succ f => rw [ucr, if_neg hs]
theorem ucr_none {t nc ni f lc : Nat} {p : Int32} {g : qH} {s : Int64} (hb : bst (m_cl g t) (m_cf g t) p nc = none) : ucr t nc ni p f g s lc = g := by
  cases f with
  | zero => rfl
  | succ f =>
    rw [ucr, hb]
    dsimp only
    split <;> rfl
theorem lp_X8_uc0 {g : qH} {n0 : Nat → Nat} {Post : Option qV → qH → Prop} {L : List (Nat × qV)} (hP : Post none g) (h7 : qlk L 7 = some (.inl 0)) : Vw yX8_useCredits cX8_useCredits 11 none (qrm 1 27 0 0) 0 0 n0 Post 17 L [] g 0 0 := by
  refine V_iload 19 dX8_useCredits_17 rfl h7 ?_
  refine V_if_eq 175 22 dX8_useCredits_19 rfl rfl (fun _ => ?_) (fun c => absurd rfl c)
  exact V_vret dX8_useCredits_175 rfl hP (Nat.le_refl _) (Nat.le_refl _)
theorem lp_X8_uc {t nc ni : Nat} {p : Int32} (ht : t < 6) (hnc : nc ≤ 40) (hni : ni < 60) {n0 : Nat → Nat} {Post : Option qV → qH → Prop} :
    ∀ (f : Nat) (g : qH) (s : Int64) (lc : Nat), SHR g → qg_i g 33 0 27 = nI ni → qg_i g 59 0 ni = nI lc → qg_i g 50 0 t = nI nc → cpn (m_cl g t) (m_cf g t) p nc ≤ f → lc + f ≤ 59 → Post none (ucr t nc ni p f g s lc) →
      Vw yX8_useCredits cX8_useCredits 11 none (qrm 1 27 0 0) 0 0 n0 Post 17 [(0, .inr (.inr (some (33, 0)))), (1, .inl (nI t)), (2, .inl p), (5, .inr (.inl s)), (7, .inl (if 0 < s then 1 else 0))] [] g 0 0 := by
  intro f
  induction f with
  | zero =>
    intro g s lc hS e el hc hcp hlc hP
    by_cases hs : 0 < s
    · have hb := cpn_none (Nat.le_zero.mp hcp)
      have e40 : (40 : Int32) * nI t = nI (40 * t + 0) := by rw [show (40 : Int32) = nI 40 from rfl, pk_mul]; rfl
      rw [if_pos hs]
      refine V_iload 19 dX8_useCredits_17 rfl rfl ?_
      refine V_if_eq 175 22 dX8_useCredits_19 rfl rfl (fun c_19 => ?_) (fun c_19 => ?_)
      · skip
        exact absurd c_19 (by decide)
      · skip
        refine V_iconst (v := (-1)) 23 dX8_useCredits_22 rfl (by decide) ?_
        refine V_istore 25 dX8_useCredits_23 rfl (by decide) ?_
        refine V_bipush (v := 40) 27 dX8_useCredits_25 rfl (by decide) ?_
        refine V_iload_n 28 dX8_useCredits_27 rfl rfl ?_
        refine V_imul 29 dX8_useCredits_28 rfl ?_
        refine V_istore 31 dX8_useCredits_29 rfl (by decide) ?_
        refine V_at (lp_X8_best (s := s) (p := p) hS ht hc hnc ?_ nc 0 (by omega)) ⟨rfl, rfl, rfl, rfl, rfl, (by rw [← e40]; rfl), trivial⟩
        rw [hb]
        refine V_iload 105 dX8_useCredits_103 rfl rfl ?_
        refine V_iconst (v := (-1)) 106 dX8_useCredits_105 rfl (by decide) ?_
        refine V_icmp_eq 152 109 dX8_useCredits_106 rfl rfl (fun c_106 => ?_) (fun c_106 => ?_)
        · skip
          refine V_iload 154 dX8_useCredits_152 rfl rfl ?_
          refine V_iconst (v := (-1)) 155 dX8_useCredits_154 rfl (by decide) ?_
          refine V_icmp_eq 169 158 dX8_useCredits_155 rfl rfl (fun c_155 => ?_) (fun c_155 => ?_)
          · skip
            refine V_iconst (v := 0) 170 dX8_useCredits_169 rfl (by decide) ?_
            refine V_istore 172 dX8_useCredits_170 rfl (by decide) ?_
            refine V_goto 17 dX8_useCredits_172 rfl ?_
            exact lp_X8_uc0 hP rfl
          · skip
            exact absurd rfl c_155
        · skip
          exact absurd rfl c_106
    · rw [if_neg hs]
      exact lp_X8_uc0 hP rfl
  | succ f ih =>
    intro g s lc hS e el hc hcp hlc hP
    by_cases hs : 0 < s
    · rw [if_pos hs]
      have e40 : (40 : Int32) * nI t = nI (40 * t + 0) := by rw [show (40 : Int32) = nI 40 from rfl, pk_mul]; rfl
      cases hb : bst (m_cl g t) (m_cf g t) p nc with
      | none =>
        rw [ucr_none hb] at hP
        refine V_iload 19 dX8_useCredits_17 rfl rfl ?_
        refine V_if_eq 175 22 dX8_useCredits_19 rfl rfl (fun c_19 => ?_) (fun c_19 => ?_)
        · skip
          exact absurd c_19 (by decide)
        · skip
          refine V_iconst (v := (-1)) 23 dX8_useCredits_22 rfl (by decide) ?_
          refine V_istore 25 dX8_useCredits_23 rfl (by decide) ?_
          refine V_bipush (v := 40) 27 dX8_useCredits_25 rfl (by decide) ?_
          refine V_iload_n 28 dX8_useCredits_27 rfl rfl ?_
          refine V_imul 29 dX8_useCredits_28 rfl ?_
          refine V_istore 31 dX8_useCredits_29 rfl (by decide) ?_
          refine V_at (lp_X8_best (s := s) (p := p) hS ht hc hnc ?_ nc 0 (by omega)) ⟨rfl, rfl, rfl, rfl, rfl, (by rw [← e40]; rfl), trivial⟩
          rw [hb]
          refine V_iload 105 dX8_useCredits_103 rfl rfl ?_
          refine V_iconst (v := (-1)) 106 dX8_useCredits_105 rfl (by decide) ?_
          refine V_icmp_eq 152 109 dX8_useCredits_106 rfl rfl (fun c_106 => ?_) (fun c_106 => ?_)
          · skip
            refine V_iload 154 dX8_useCredits_152 rfl rfl ?_
            refine V_iconst (v := (-1)) 155 dX8_useCredits_154 rfl (by decide) ?_
            refine V_icmp_eq 169 158 dX8_useCredits_155 rfl rfl (fun c_155 => ?_) (fun c_155 => ?_)
            · skip
              refine V_iconst (v := 0) 170 dX8_useCredits_169 rfl (by decide) ?_
              refine V_istore 172 dX8_useCredits_170 rfl (by decide) ?_
              refine V_goto 17 dX8_useCredits_172 rfl ?_
              exact lp_X8_uc0 hP rfl
            · skip
              exact absurd rfl c_155
          · skip
            exact absurd rfl c_106
      | some b =>
        obtain ⟨b1, b2, b3⟩ := bst_some hb
        rw [ucr, if_pos hs, hb] at hP
        dsimp only at hP
        have hfin : ∀ mo, mo = (if 0 < s - m_min s (m_cf g t b) then (1 : Int32) else 0) → Vw yX8_useCredits cX8_useCredits 11 none (qrm 1 27 0 0) 0 0 n0 Post 17 [(0, .inr (.inr (some (33, 0)))), (1, .inl (nI t)), (2, .inl p), (5, .inr (.inl (s - m_min s (m_cf g t b)))), (7, .inl mo)] [] (uc1 g t ni lc b s) 0 0 := by
          intro mo hmo
          subst hmo
          by_cases hs2 : 0 < s - m_min s (m_cf g t b)
          · refine ih _ _ (lc + 1) hS e (by simp [uc1, m_line, qil, qii]) hc ?_ (by omega) hP
            have hm : m_min s (m_cf g t b) = m_cf g t b := by
              unfold m_min at hs2 ⊢
              split
              · rfl
              · rename_i q
                rw [if_neg q] at hs2
                exfalso
                have : s - s = 0 := by grind
                grind
            have := cpn_dec (cl := m_cl g t) (cf := m_cf g t) (cf' := m_cf (uc1 g t ni lc b s) t) (p := p) (b := b) (fun k hk => by
              show qg_l (uc1 g t ni lc b s) 51 0 (40 * t + k) = qg_l g 51 0 (40 * t + k)
              simp [uc1, m_line, qll, qli, hk]) ⟨b2, b3⟩ (by
              show ¬ 0 < qg_l (uc1 g t ni lc b s) 51 0 (40 * t + b)
              simp only [uc1, qll, and_self, if_true, hm]
              grind) b1
            have e2 : m_cl (uc1 g t ni lc b s) t = m_cl g t := by
              funext k
              simp [m_cl, uc1, m_line, qil, qii]
            rw [e2]
            omega
          · rw [if_neg hs2]
            rw [ucr_stop hs2] at hP
            exact lp_X8_uc0 hP rfl
        refine V_iload 19 dX8_useCredits_17 rfl rfl ?_
        refine V_if_eq 175 22 dX8_useCredits_19 rfl rfl (fun c_19 => ?_) (fun c_19 => ?_)
        · skip
          exact absurd c_19 (by decide)
        · skip
          refine V_iconst (v := (-1)) 23 dX8_useCredits_22 rfl (by decide) ?_
          refine V_istore 25 dX8_useCredits_23 rfl (by decide) ?_
          refine V_bipush (v := 40) 27 dX8_useCredits_25 rfl (by decide) ?_
          refine V_iload_n 28 dX8_useCredits_27 rfl rfl ?_
          refine V_imul 29 dX8_useCredits_28 rfl ?_
          refine V_istore 31 dX8_useCredits_29 rfl (by decide) ?_
          refine V_at (lp_X8_best (s := s) (p := p) hS ht hc hnc ?_ nc 0 (by omega)) ⟨rfl, rfl, rfl, rfl, rfl, (by rw [← e40]; rfl), trivial⟩
          rw [hb]
          refine V_iload 105 dX8_useCredits_103 rfl rfl ?_
          refine V_iconst (v := (-1)) 106 dX8_useCredits_105 rfl (by decide) ?_
          refine V_icmp_eq 152 109 dX8_useCredits_106 rfl rfl (fun c_106 => ?_) (fun c_106 => ?_)
          · skip
            exact absurd c_106 (nI_ne_m1 (by omega))
          · skip
            refine V_lload 111 dX8_useCredits_109 rfl rfl ?_
            refine V_aload_n 112 dX8_useCredits_111 rfl rfl ?_
            refine V_getR 115 8 21 fl_X8_146 dX8_useCredits_112 rfl rfl (by decide) (Or.inr ⟨_, rfl⟩) (by decide) (sr_21 hS) ?_
            refine V_iload 117 dX8_useCredits_115 rfl rfl ?_
            refine V_laldN 118 (40 * t + b) dX8_useCredits_117 rfl rfl (by decide) rfl (show _ < 240 by omega) (by decide) ?_
            refine V_cS2l 121 (ct_J9_min_f86c9 _ _ _) cs_X8_109 dX8_useCredits_118 rfl ⟨Nat.le_of_ble_eq_true rfl, Nat.le_of_ble_eq_true rfl⟩ (Nat.le_of_ble_eq_true rfl) ⟨Nat.le_of_ble_eq_true rfl, Nat.le_of_ble_eq_true rfl⟩ (fun x h' hx hle => ?_)
            obtain ⟨rfl, rfl⟩ := hx
            refine V_lstore 123 dX8_useCredits_121 rfl (by decide) ?_
            refine V_aload_n 124 dX8_useCredits_123 rfl rfl ?_
            refine V_iconst (v := 5) 125 dX8_useCredits_124 rfl (by decide) ?_
            refine V_iconst (v := (-1)) 126 dX8_useCredits_125 rfl (by decide) ?_
            refine V_lconst (v := 0) 127 dX8_useCredits_126 rfl (by decide) ?_
            refine V_lload 129 dX8_useCredits_127 rfl rfl ?_
            refine V_lneg 130 dX8_useCredits_129 rfl ?_
            refine V_cV4v 133 (ct_X8_line hS e hni el (by omega)) cs_X8_215 rfl rfl (by decide) dX8_useCredits_130 rfl ⟨Nat.le_of_ble_eq_true rfl, Nat.le_of_ble_eq_true rfl⟩ (Nat.le_of_ble_eq_true rfl) ⟨Nat.le_of_ble_eq_true rfl, Nat.le_of_ble_eq_true rfl⟩ (fun h' hx hle => ?_)
            obtain rfl := hx
            refine V_aload_n 134 dX8_useCredits_133 rfl rfl ?_
            refine V_getR 137 8 21 fl_X8_146 dX8_useCredits_134 rfl rfl (by decide) (Or.inr ⟨_, rfl⟩) (by decide) (sr_21 hS) ?_
            refine V_iload 139 dX8_useCredits_137 rfl rfl ?_
            refine V_dup2 140 dX8_useCredits_139 rfl ?_
            refine V_laldN 141 (40 * t + b) dX8_useCredits_140 rfl rfl (by decide) rfl (show _ < 240 by omega) (by decide) ?_
            refine V_lload 143 dX8_useCredits_141 rfl rfl ?_
            refine V_lsub 144 dX8_useCredits_143 rfl ?_
            refine V_lastN 145 (40 * t + b) dX8_useCredits_144 rfl rfl (by decide) rfl (show _ < 240 by omega) (by decide) ?_
            refine V_lload 147 dX8_useCredits_145 rfl rfl ?_
            refine V_lload 149 dX8_useCredits_147 rfl rfl ?_
            refine V_lsub 150 dX8_useCredits_149 rfl ?_
            refine V_lstore 152 dX8_useCredits_150 rfl (by decide) ?_
            refine V_iload 154 dX8_useCredits_152 rfl rfl ?_
            refine V_iconst (v := (-1)) 155 dX8_useCredits_154 rfl (by decide) ?_
            refine V_icmp_eq 169 158 dX8_useCredits_155 rfl rfl (fun c_155 => ?_) (fun c_155 => ?_)
            · skip
              exact absurd c_155 (nI_ne_m1 (by omega))
            · skip
              refine V_lload 160 dX8_useCredits_158 rfl rfl ?_
              refine V_lconst (v := 0) 161 dX8_useCredits_160 rfl (by decide) ?_
              refine V_lcmp 162 dX8_useCredits_161 rfl ?_
              refine V_if_le 169 165 dX8_useCredits_162 rfl rfl (fun c_162 => ?_) (fun c_162 => ?_)
              · (rw [lg_le] at c_162)
                refine V_iconst (v := 0) 170 dX8_useCredits_169 rfl (by decide) ?_
                refine V_istore 172 dX8_useCredits_170 rfl (by decide) ?_
                refine V_goto 17 dX8_useCredits_172 rfl ?_
                exact V_at (hfin _ (by first | (rw [if_pos (by assumption)]) | (rw [if_neg (by simp only [m_min, m_cf] at *; grind)]) | (rw [if_pos (by simp only [m_min, m_cf] at *; grind)]))) ⟨rfl, rfl, rfl, rfl, rfl, trivial⟩
              · (rw [lg_le] at c_162)
                refine V_iconst (v := 1) 166 dX8_useCredits_165 rfl (by decide) ?_
                refine V_goto 170 dX8_useCredits_166 rfl ?_
                refine V_istore 172 dX8_useCredits_170 rfl (by decide) ?_
                refine V_goto 17 dX8_useCredits_172 rfl ?_
                exact V_at (hfin _ (by first | (rw [if_pos (by assumption)]) | (rw [if_neg (by simp only [m_min, m_cf] at *; grind)]) | (rw [if_pos (by simp only [m_min, m_cf] at *; grind)]))) ⟨rfl, rfl, rfl, rfl, rfl, trivial⟩
    · rw [if_neg hs]
      rw [ucr_stop hs] at hP
      exact lp_X8_uc0 hP rfl
theorem ct_X8_useCredits {t nc ni lc f : Nat} {p : Int32} {s : Int64} (hS : SHR h) (ht : t < 6) (hnc : nc ≤ 40) (hni : ni < 60) (e : qg_i h 33 0 27 = nI ni) (el : qg_i h 59 0 ni = nI lc) (hc : qg_i h 50 0 t = nI nc) (hcp : cpn (m_cl h t) (m_cf h t) p nc ≤ f) (hlc : lc + f ≤ 59) : qM yX8_useCredits cX8_useCredits 11 none 1 27 0 0 [.inr (.inr (some (33, 0))), .inl (nI t), .inl p, .inr (.inl s)] h (pV fun h' => h' = ucr t nc ni p f h s lc) := by
  refine qM.of (plainFor_of_name (by decide)) (Nat.le_of_ble_eq_true rfl) ?_
  refine V_lload_n 1 dX8_useCredits_0 rfl rfl ?_
  refine V_lstore 3 dX8_useCredits_1 rfl (by decide) ?_
  refine V_lload 5 dX8_useCredits_3 rfl rfl ?_
  refine V_lconst (v := 0) 6 dX8_useCredits_5 rfl (by decide) ?_
  refine V_lcmp 7 dX8_useCredits_6 rfl ?_
  refine V_if_le 14 10 dX8_useCredits_7 rfl rfl (fun c_7 => ?_) (fun c_7 => ?_)
  · (rw [lg_le] at c_7)
    refine V_iconst (v := 0) 15 dX8_useCredits_14 rfl (by decide) ?_
    refine V_istore 17 dX8_useCredits_15 rfl (by decide) ?_
    exact V_at (lp_X8_uc ht hnc hni f h s lc hS e el hc hcp hlc ⟨rfl, rfl⟩) ⟨rfl, rfl, rfl, rfl, (by show some _ = some _; first | rw [if_pos (by grind)] | rw [if_neg (by grind)]), trivial⟩
  · (rw [lg_le] at c_7)
    refine V_iconst (v := 1) 11 dX8_useCredits_10 rfl (by decide) ?_
    refine V_goto 15 dX8_useCredits_11 rfl ?_
    refine V_istore 17 dX8_useCredits_15 rfl (by decide) ?_
    exact V_at (lp_X8_uc ht hnc hni f h s lc hS e el hc hcp hlc ⟨rfl, rfl⟩) ⟨rfl, rfl, rfl, rfl, (by show some _ = some _; first | rw [if_pos (by grind)] | rw [if_neg (by grind)]), trivial⟩
end RM
