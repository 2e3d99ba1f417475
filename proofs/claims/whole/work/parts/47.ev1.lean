/-! Call by call: events -/
section EV
variable {c : Nat} {h : qH}
theorem fr_au {A : Nat → Bool} {r p k : Nat} {u : Int64} (e : k ≠ 24) : qg_l (auF h A r p u) k = qg_l h k := by
  funext x y
  simp [qg_l, auF, e]
theorem fr_ll {a b k r : Nat} {v : Int64} (e : r ≠ a) : qg_l (qs_l h a b k v) r = qg_l h r := by
  funext i j
  simp [qg_l, qs_l, e]
theorem fr_il {a b k : Nat} {v : Int64} : qg_i (qs_l h a b k v) = qg_i h := rfl
theorem fr_li {a b k : Nat} {v : Int32} : qg_l (qs_i h a b k v) = qg_l h := rfl
theorem rd_ll {a b k x y : Nat} {v : Int64} : qg_l (qs_l h a b k v) a x y = if x = b ∧ y = k then v else qg_l h a x y := by
  simp [qg_l, qs_l]
theorem rd_ii {a b k x y : Nat} {v : Int32} : qg_i (qs_i h a b k v) a x y = if x = b ∧ y = k then v else qg_i h a x y := by
  simp [qg_i, qs_i]
def CEV (h g : qH) (nc : Nat) (e : Int64 × Int32 × Int32) (a r p t : Nat) (u d : Int64) (ad : Bool) : Prop := (qg_r g = qg_r h ∧ qg_n g = qg_n h) ∧ (∀ k, k ∉ [6, 8, 9] → qg_i g k = qg_i h k) ∧ (∀ k, k ∉ [7, 13, 14, 24] → qg_l g k = qg_l h k) ∧ (qg_i g 6 0 3 = nI (nc + 1) ∧ kl g 7 8 9 (nc + 1) = kl h 7 8 9 nc ++ [e]) ∧ (∀ b r' p', r' < 4 → qg_l g 24 (4 * b + r') p' = if r' = r ∧ p' = p ∧ ly (par h) a b = true then qg_l h 24 (4 * b + r') p' + u else qg_l h 24 (4 * b + r') p') ∧ (∀ x y, qg_l g 13 x y = if ad = true ∧ x = t ∧ y = r then qg_l h 13 x y + u else qg_l h 13 x y) ∧ (∀ x y, qg_l g 14 x y = if ad = true ∧ x = t ∧ y = r then qg_l h 14 x y + d else qg_l h 14 x y)
def MEV (h g : qH) (M nk : Nat) (e : Int64 × Int32 × Int32) (z q : Nat) (u d : Int64) (ad : Bool) : Prop := (qg_r g = qg_r h ∧ qg_n g = qg_n h) ∧ (∀ k, k ∉ [33, 38, 39, 40, 56] → qg_i g k = qg_i h k) ∧ (∀ k, k ≠ 6 → qg_i g 33 0 k = qg_i h 33 0 k) ∧ (∀ k, k ∉ [33, 37, 38, 39, 40, 54, 55] → qg_l g k = qg_l h k) ∧ (∃ ng, ng < 300 ∧ qg_i g 33 0 6 = nI (ng + 1) ∧ kl g 38 39 40 (ng + 1) = (kl h 38 39 40 nk).filter (alv M) ++ [e]) ∧ (∀ y, qg_l g 37 0 y = if y = z then qg_l h 37 0 y + u else qg_l h 37 0 y) ∧ (∀ y, qg_l g 54 0 y = if ad = true ∧ y = q then qg_l h 54 0 y + u else qg_l h 54 0 y) ∧ (∀ y, qg_l g 55 0 y = if ad = true ∧ y = q then qg_l h 55 0 y + d else qg_l h 55 0 y) ∧ ∀ y, qg_i g 56 0 y = if ad = true ∧ y = q then 1 else qg_i h 56 0 y
theorem put_i {nc k : Nat} {key : Int64} {t mi : Int32} (e : k ∉ [6, 8, 9]) : qg_i (f_put h nc key t mi) k = qg_i h k := by
  simp only [List.mem_cons, List.not_mem_nil, or_false, not_or] at e
  unfold f_put
  rw [fr_ii e.1, fr_ii e.2.2, fr_ii e.2.1, fr_il]
theorem put_l {nc k : Nat} {key : Int64} {t mi : Int32} (e : k ≠ 7) : qg_l (f_put h nc key t mi) k = qg_l h k := by
  unfold f_put
  rw [fr_li, fr_li, fr_li, fr_ll e]
theorem put_kl {nc : Nat} {key : Int64} {t mi : Int32} : kl (f_put h nc key t mi) 7 8 9 (nc + 1) = kl h 7 8 9 nc ++ [(key, t, mi)] := by
  have a1 : ∀ k, qg_l (f_put h nc key t mi) 7 0 k = if k = nc then key else qg_l h 7 0 k := fun k => by
    unfold f_put
    rw [fr_li, fr_li, fr_li, rd_ll]
    simp
  have a2 : ∀ k, qg_i (f_put h nc key t mi) 8 0 k = if k = nc then t else qg_i h 8 0 k := fun k => by
    unfold f_put
    rw [fr_ii (by decide), fr_ii (by decide), rd_ii, fr_il]
    simp
  have a3 : ∀ k, qg_i (f_put h nc key t mi) 9 0 k = if k = nc then mi else qg_i h 9 0 k := fun k => by
    unfold f_put
    rw [fr_ii (by decide), rd_ii, fr_ii (by decide), fr_il]
    simp
  rw [kl_succ, a1, a2, a3, if_pos rfl, if_pos rfl, if_pos rfl]
  congr 1
  refine kl_congr (fun k hk => ?_)
  rw [a1, a2, a3, if_neg (by omega), if_neg (by omega), if_neg (by omega)]
  exact ⟨rfl, rfl, rfl⟩
theorem au_24 {A : Nat → Bool} {r p b r' p' : Nat} {u : Int64} (hr : r' < 4) : qg_l (auF h A r p u) 24 (4 * b + r') p' = if r' = r ∧ p' = p ∧ A b = true then qg_l h 24 (4 * b + r') p' + u else qg_l h 24 (4 * b + r') p' := by
  show (if 24 = 24 ∧ p' = p ∧ (4 * b + r') % 4 = r ∧ A ((4 * b + r') / 4) = true then qg_l h 24 (4 * b + r') p' + u else qg_l h 24 (4 * b + r') p') = _
  rw [show (4 * b + r') % 4 = r' by omega, show (4 * b + r') / 4 = b by omega]
  by_cases q : r' = r ∧ p' = p ∧ A b = true
  · rw [if_pos q, if_pos ⟨rfl, q.2.1, q.1, q.2.2⟩]
  · rw [if_neg q, if_neg (fun z => q ⟨z.2.2.1, z.2.1, z.2.2.2⟩)]
theorem cev_new {nc a r p t : Nat} {key u d : Int64} {t' mi : Int32} : CEV h (auF (f_put h nc key t' mi) (ly (par h) a) r p u) nc (key, t', mi) a r p t u d false := by
  refine ⟨⟨rfl, rfl⟩, fun k hk => put_i hk, fun k hk => ?_, ⟨rfl, ?_⟩, fun b r' p' hr' => ?_, fun x y => ?_, fun x y => ?_⟩
  · simp only [List.mem_cons, List.not_mem_nil, or_false, not_or] at hk
    rw [fr_au hk.2.2.2, put_l hk.1]
  · rw [← put_kl]
    unfold kl
    rw [fr_au (by decide)]
    rfl
  · rw [au_24 hr', put_l (by decide)]
  · rw [fr_au (by decide), put_l (by decide)]
    simp
  · rw [fr_au (by decide), put_l (by decide)]
    simp
theorem cev_adj {nc a r p t k : Nat} {key q u : Int64} {t' mi : Int32} : CEV h (auF (f_adj (f_put h nc key t' mi) t r k q u) (ly (par h) a) r p u) nc (key, t', mi) a r p t u (f_cost h (8 * t + 2 * r + 1) k (q + u) - f_cost h (8 * t + 2 * r + 1) k q) true := by
  have adl : ∀ k', k' ≠ 13 → k' ≠ 14 → qg_l (f_adj (f_put h nc key t' mi) t r k q u) k' = qg_l (f_put h nc key t' mi) k' := fun k' h1 h2 => by
    unfold f_adj
    rw [fr_ll h2, fr_ll h1]
  have fc : ∀ n, f_cost (f_put h nc key t' mi) (8 * t + 2 * r + 1) k n = f_cost h (8 * t + 2 * r + 1) k n := fun n => by
    unfold f_cost f_cst
    rw [put_i (by decide), put_i (by decide), put_i (by decide), put_l (by decide)]
  refine ⟨⟨rfl, rfl⟩, fun k hk => put_i hk, fun k hk => ?_, ⟨rfl, ?_⟩, fun b r' p' hr' => ?_, fun x y => ?_, fun x y => ?_⟩
  · simp only [List.mem_cons, List.not_mem_nil, or_false, not_or] at hk
    rw [fr_au hk.2.2.2, adl k hk.2.1 hk.2.2.1, put_l hk.1]
  · rw [← put_kl]
    unfold kl
    rw [fr_au (by decide), adl 7 (by decide) (by decide)]
    rfl
  · rw [au_24 hr', adl 24 (by decide) (by decide), put_l (by decide)]
  · rw [fr_au (by decide)]
    unfold f_adj
    rw [fr_ll (by decide), rd_ll, put_l (by decide)]
    by_cases z : x = t ∧ y = r
    · obtain ⟨rfl, rfl⟩ := z
      simp
    · rw [if_neg z, if_neg (fun q => z q.2)]
  · rw [fr_au (by decide)]
    unfold f_adj
    rw [rd_ll, fr_ll (by decide), put_l (by decide), fc, fc]
    by_cases z : x = t ∧ y = r
    · obtain ⟨rfl, rfl⟩ := z
      simp
    · rw [if_neg z, if_neg (fun q => z q.2)]
theorem mput_i {nc k : Nat} {key : Int64} {t mi : Int32} (e : k ∉ [33, 39, 40]) : qg_i (m_put h nc key t mi) k = qg_i h k := by
  simp only [List.mem_cons, List.not_mem_nil, or_false, not_or] at e
  unfold m_put
  rw [fr_ii e.1, fr_ii e.2.2, fr_ii e.2.1, fr_il]
theorem mput_33 {nc k : Nat} {key : Int64} {t mi : Int32} (e : k ≠ 6) : qg_i (m_put h nc key t mi) 33 0 k = qg_i h 33 0 k := by
  unfold m_put
  rw [rd_ii, if_neg (fun z => e z.2), fr_ii (by decide), fr_ii (by decide), fr_il]
theorem mput_l {nc k : Nat} {key : Int64} {t mi : Int32} (e : k ≠ 38) : qg_l (m_put h nc key t mi) k = qg_l h k := by
  unfold m_put
  rw [fr_li, fr_li, fr_li, fr_ll e]
theorem mput_kl {nc : Nat} {key : Int64} {t mi : Int32} : kl (m_put h nc key t mi) 38 39 40 (nc + 1) = kl h 38 39 40 nc ++ [(key, t, mi)] := by
  have a1 : ∀ k, qg_l (m_put h nc key t mi) 38 0 k = if k = nc then key else qg_l h 38 0 k := fun k => by
    unfold m_put
    rw [fr_li, fr_li, fr_li, rd_ll]
    simp
  have a2 : ∀ k, qg_i (m_put h nc key t mi) 39 0 k = if k = nc then t else qg_i h 39 0 k := fun k => by
    unfold m_put
    rw [fr_ii (by decide), fr_ii (by decide), rd_ii, fr_il]
    simp
  have a3 : ∀ k, qg_i (m_put h nc key t mi) 40 0 k = if k = nc then mi else qg_i h 40 0 k := fun k => by
    unfold m_put
    rw [fr_ii (by decide), rd_ii, fr_ii (by decide), fr_il]
    simp
  rw [kl_succ, a1, a2, a3, if_pos rfl, if_pos rfl, if_pos rfl]
  congr 1
  refine kl_congr (fun k hk => ?_)
  rw [a1, a2, a3, if_neg (by omega), if_neg (by omega), if_neg (by omega)]
  exact ⟨rfl, rfl, rfl⟩
theorem mev_new {g : qH} {M nk ng z q : Nat} {key u d : Int64} {t mi : Int32} (hM : qg_i h 33 0 0 = nI M) (F : FG h nk g ng) (hn : ng < 300) : MEV h (m_add (m_put g ng key t mi) z u) M nk (key, t, mi) z q u d false := by
  obtain ⟨f1, f2, f3, ⟨f4, f4'⟩, f5⟩ := F
  rw [alv_eq hM] at f3
  have gl : ∀ k, k ∉ [33, 38, 39, 40] → qg_l g k = qg_l h k := fun k hk => by
    simp only [List.mem_cons, List.not_mem_nil, or_false, not_or] at hk
    funext x y
    exact (f5 k x y (by omega)).2
  have ml : ∀ k, k ≠ 37 → qg_l (m_add (m_put g ng key t mi) z u) k = qg_l (m_put g ng key t mi) k := fun k hk => by
    unfold m_add
    rw [fr_ll hk]
  refine ⟨⟨f4', f4⟩, fun k hk => ?_, fun k hk => ?_, fun k hk => ?_, ⟨ng, hn, rfl, ?_⟩, fun y => ?_, fun y => ?_, fun y => ?_, fun y => ?_⟩
  · simp only [List.mem_cons, List.not_mem_nil, or_false, not_or] at hk
    show qg_i (m_put g ng key t mi) k = _
    rw [mput_i (by simp only [List.mem_cons, List.not_mem_nil, or_false, not_or]; omega)]
    funext x y
    exact (f5 k x y (by omega)).1
  · show qg_i (m_put g ng key t mi) 33 0 k = _
    rw [mput_33 hk]
    exact (f5 33 0 k (by omega)).1
  · simp only [List.mem_cons, List.not_mem_nil, or_false, not_or] at hk
    rw [ml k (by omega), mput_l (by omega)]
    exact gl k (by simp only [List.mem_cons, List.not_mem_nil, or_false, not_or]; omega)
  · rw [← f3, ← mput_kl]
    unfold kl
    rw [ml 38 (by decide)]
    rfl
  · unfold m_add
    rw [rd_ll, mput_l (by decide), gl 37 (by decide)]
    by_cases e : y = z
    · subst e
      simp
    · rw [if_neg e, if_neg (fun w => e w.2)]
  · rw [ml 54 (by decide), mput_l (by decide), gl 54 (by decide)]
    simp
  · rw [ml 55 (by decide), mput_l (by decide), gl 55 (by decide)]
    simp
  · show qg_i (m_put g ng key t mi) 56 0 y = _
    rw [mput_i (by decide)]
    simp only [Bool.false_eq_true, false_and, if_false]
    exact (f5 56 0 y (by omega)).1
theorem mev_adj {g : qH} {M nk ng z q : Nat} {key u d : Int64} {t mi : Int32} (hM : qg_i h 33 0 0 = nI M) (F : FG h nk g ng) (hn : ng < 300) : MEV h (m_add (m_adj (m_put g ng key t mi) q u d) z u) M nk (key, t, mi) z q u d true := by
  obtain ⟨f1, f2, f3, ⟨f4, f4'⟩, f5⟩ := F
  rw [alv_eq hM] at f3
  have gl : ∀ k, k ∉ [33, 38, 39, 40] → qg_l g k = qg_l h k := fun k hk => by
    simp only [List.mem_cons, List.not_mem_nil, or_false, not_or] at hk
    funext x y
    exact (f5 k x y (by omega)).2
  have ml : ∀ k, k ≠ 37 → qg_l (m_add (m_adj (m_put g ng key t mi) q u d) z u) k = qg_l (m_adj (m_put g ng key t mi) q u d) k := fun k hk => by
    unfold m_add
    rw [fr_ll hk]
  have mj : ∀ k, k ≠ 54 → k ≠ 55 → qg_l (m_adj (m_put g ng key t mi) q u d) k = qg_l (m_put g ng key t mi) k := fun k h1 h2 => by
    unfold m_adj
    rw [fr_li, fr_ll h2, fr_ll h1]
  have mi' : ∀ k, k ≠ 56 → qg_i (m_add (m_adj (m_put g ng key t mi) q u d) z u) k = qg_i (m_put g ng key t mi) k := fun k hk => by
    unfold m_add m_adj
    rw [fr_il, fr_ii hk, fr_il, fr_il]
  refine ⟨⟨f4', f4⟩, fun k hk => ?_, fun k hk => ?_, fun k hk => ?_, ⟨ng, hn, rfl, ?_⟩, fun y => ?_, fun y => ?_, fun y => ?_, fun y => ?_⟩
  · simp only [List.mem_cons, List.not_mem_nil, or_false, not_or] at hk
    rw [mi' k (by omega), mput_i (by simp only [List.mem_cons, List.not_mem_nil, or_false, not_or]; omega)]
    funext x y
    exact (f5 k x y (by omega)).1
  · rw [mi' 33 (by decide), mput_33 hk]
    exact (f5 33 0 k (by omega)).1
  · simp only [List.mem_cons, List.not_mem_nil, or_false, not_or] at hk
    rw [ml k (by omega), mj k (by omega) (by omega), mput_l (by omega)]
    exact gl k (by simp only [List.mem_cons, List.not_mem_nil, or_false, not_or]; omega)
  · rw [← f3, ← mput_kl]
    unfold kl
    rw [ml 38 (by decide), mj 38 (by decide) (by decide), mi' 39 (by decide), mi' 40 (by decide)]
  · unfold m_add
    rw [rd_ll, mj 37 (by decide) (by decide), mput_l (by decide), gl 37 (by decide)]
    by_cases e : y = z
    · subst e
      simp
    · rw [if_neg e, if_neg (fun w => e w.2)]
  · rw [ml 54 (by decide)]
    unfold m_adj
    rw [fr_li, fr_ll (by decide), rd_ll, mput_l (by decide), gl 54 (by decide)]
    by_cases e : y = q
    · subst e
      simp
    · rw [if_neg (fun w => e w.2), if_neg (fun w => e w.2)]
  · rw [ml 55 (by decide)]
    unfold m_adj
    rw [fr_li, rd_ll, fr_ll (by decide), mput_l (by decide), gl 55 (by decide)]
    by_cases e : y = q
    · subst e
      simp
    · rw [if_neg (fun w => e w.2), if_neg (fun w => e w.2)]
  · unfold m_add m_adj
    rw [fr_il, rd_ii, fr_il, fr_il, mput_i (by decide)]
    by_cases e : y = q
    · subst e
      simp
    · rw [if_neg (fun w => e w.2), if_neg (fun w => e w.2)]
      exact (f5 56 0 y (by omega)).1
theorem sm4 {f g : Nat → Nat} {r K : Nat} (hr : r < 4) (e : ∀ i, i ≠ r → g i = f i) (e' : g r ≤ f r + K) : g 0 + g 1 + g 2 + g 3 ≤ f 0 + f 1 + f 2 + f 3 + K := by
  rcases (show r = 0 ∨ r = 1 ∨ r = 2 ∨ r = 3 by omega) with rfl | rfl | rfl | rfl
  · rw [e 1 (by decide), e 2 (by decide), e 3 (by decide)]
    omega
  · rw [e 0 (by decide), e 2 (by decide), e 3 (by decide)]
    omega
  · rw [e 0 (by decide), e 1 (by decide), e 3 (by decide)]
    omega
  · rw [e 0 (by decide), e 1 (by decide), e 2 (by decide)]
    omega
theorem nL_pos {n : Nat} (h : n < 2 ^ 63) : 0 < nL n ↔ 0 < n := by
  rw [Int64.lt_iff_toInt_lt, nL_toInt h]
  show (0 : Int) < _ ↔ _
  omega
theorem RD.ev {M NA NH NI a r p t U m nc nk : Nat} {key d : Int64} {ad : Bool} {g G : qH} (R : RD c h M NA NH NI) (hc : c < 512) (ha : a < NA) (hr : r < 4) (hp : p < 100) (ht : t < 6) (hU : 1 ≤ U ∧ U ≤ 1000000) (hm : m ≤ M ∧ M ≤ m + 500) (ec : qg_i h 6 0 3 = nI nc) (hnc : nc < 300) (ek : qg_i h 33 0 6 = nI nk) (hnk : nk ≤ 300) (C : CEV h g nc (key, nI t, nI m) a r p t (nL U) d ad) (E : MEV g G M nk (key, nI t, nI m) ((4 * a + r) * 100 + p) (4 * t + r) (nL U) d ad) (hd : ab d ≤ CB) : RD (c + 1) G M NA NH NI := by
  obtain ⟨⟨c1, c2⟩, c3, c4, ⟨c5, c6⟩, c7, c8, c9⟩ := C
  obtain ⟨⟨e1, e2⟩, e3, e33, e4, ⟨ng, e5, e6, e7⟩, e8, e9, e10, e11⟩ := E
  have Er : qg_r G = qg_r h := e1.trans c1
  have En : qg_n G = qg_n h := e2.trans c2
  have Ei : ∀ k, k ∉ [6, 8, 9, 33, 38, 39, 40, 56] → qg_i G k = qg_i h k := fun k hk => by
    simp only [List.mem_cons, List.not_mem_nil, or_false, not_or] at hk
    rw [e3 k (by simp only [List.mem_cons, List.not_mem_nil, or_false, not_or]; omega), c3 k (by simp only [List.mem_cons, List.not_mem_nil, or_false, not_or]; omega)]
  have El : ∀ k, k ∉ [7, 13, 14, 24, 33, 37, 38, 39, 40, 54, 55] → qg_l G k = qg_l h k := fun k hk => by
    simp only [List.mem_cons, List.not_mem_nil, or_false, not_or] at hk
    rw [e4 k (by simp only [List.mem_cons, List.not_mem_nil, or_false, not_or]; omega), c4 k (by simp only [List.mem_cons, List.not_mem_nil, or_false, not_or]; omega)]
  have E33 : ∀ k, k ≠ 6 → qg_i G 33 0 k = qg_i h 33 0 k := fun k hk => by rw [e33 k hk, c3 33 (by decide)]
  have g37 : ∀ y, qg_l G 37 0 y = if y = (4 * a + r) * 100 + p then qg_l h 37 0 y + nL U else qg_l h 37 0 y := fun y => by rw [e8, c4 37 (by decide)]
  have hM := R.sc.1.1
  refine ⟨?_, R.sr.to (congrFun Er 33), R.sh.to Er, R.sn.to En, R.wn.to (fun t => congrFun (congrFun (Ei 10 (by decide)) t) 0), R.ba.to (Ei 22 (by decide)) (Ei 34 (by decide)) (Ei 35 (by decide)) (congrFun Er 22), R.bl.to (Ei 26 (by decide)) (Ei 36 (by decide)), ?_, ?_, ?_, R.h2.to (congrFun (congrFun (Ei 1 (by decide)) 0) 8) (Ei 27 (by decide)), R.h3.to (Ei 25 (by decide)) (Ei 27 (by decide)) (congrFun Er 27) (congrFun Er 22), ?_, R.bp.to (El 46 (by decide)) (Ei 18 (by decide)) (El 19 (by decide)) (Ei 20 (by decide)) (Ei 21 (by decide)), R.bt.to (fun t => congrFun (congrFun (Ei 10 (by decide)) t) 7) (fun t => congrFun (congrFun (El 10 (by decide)) t) 8) (fun t => congrFun (congrFun (Ei 10 (by decide)) t) 9) (Ei 47 (by decide)) (El 48 (by decide)) (Ei 49 (by decide)), ?_, R.bY.to (Ei 53 (by decide)) (Ei 57 (by decide)) (Ei 58 (by decide)) (El 46 (by decide)) (Ei 18 (by decide)) (El 19 (by decide)) (Ei 20 (by decide)) (Ei 21 (by decide)), R.bc.to (Ei 15 (by decide)) (Ei 50 (by decide)) (Ei 17 (by decide)) (Ei 52 (by decide)) (Ei 53 (by decide)) (El 16 (by decide)) (El 51 (by decide)), R.bi.to (Ei 28 (by decide)) (Ei 57 (by decide)) (Ei 58 (by decide)) (Ei 59 (by decide)) (Ei 29 (by decide)) (Ei 30 (by decide)) (El 28 (by decide)) (El 31 (by decide)) (El 32 (by decide)) (El 60 (by decide))⟩
  · exact R.sc.to (fun k _ => congrFun (congrFun (Ei 1 (by decide)) 0) k) (fun k hk => E33 k (by omega))
  · intro b hb r' hr' p' hp'
    rw [e4 24 (by decide), c7 b r' p' hr', R.bu b hb r' hr' p' hp']
    unfold m_used
    rw [Ei 35 (by decide)]
    by_cases q : r' = r ∧ p' = p
    · obtain ⟨rfl, rfl⟩ := q
      rw [sm_l_one (g := fun a => if ly (qg_i h 35 0) a b then qg_l G 37 0 ((4 * a + r') * 100 + p') else 0) (f := fun a => if ly (qg_i h 35 0) a b then qg_l h 37 0 ((4 * a + r') * 100 + p') else 0) ha (fun i hi hne => by
        try dsimp only
        have e0 : qg_l G 37 0 ((4 * i + r') * 100 + p') = qg_l h 37 0 ((4 * i + r') * 100 + p') := by rw [g37, if_neg (by omega)]
        rw [e0])]
      try dsimp only
      rw [g37, if_pos rfl, R.lyE ha]
      by_cases z : ly (par h) a b = true
      · simp only [z, and_self, if_true]
        grind
      · simp only [z, and_false, if_false]
        grind
    · rw [if_neg (fun y => q ⟨y.1, y.2.1⟩)]
      refine sm_l_congr (fun i hi => ?_)
      try dsimp only
      have e0 : qg_l G 37 0 ((4 * i + r') * 100 + p') = qg_l h 37 0 ((4 * i + r') * 100 + p') := by rw [g37, if_neg (by omega)]
      rw [e0]
  · intro r' hr' p' hp'
    obtain ⟨s, s1, s2, s3⟩ := R.bs r' hr' p' hp'
    by_cases q : r' = r ∧ p' = p
    · obtain ⟨rfl, rfl⟩ := q
      refine ⟨fun b => if b = a then s b + U else s b, fun b hb => ?_, fun b hb => ?_, ?_⟩
      · rw [g37, s1 b hb]
        show _ = nL (if b = a then s b + U else s b)
        by_cases e : b = a
        · rw [if_pos (by rw [e]), if_pos e, nL_add]
        · rw [if_neg (by omega), if_neg e]
      · have : b ≠ a := by omega
        show (if b = a then s b + U else s b) = 0
        rw [if_neg this]
        exact s2 b hb
      · have := sm_n_one (f := s) (g := fun b => if b = a then s b + U else s b) (j := a) (n := 24) (by have := R.na; omega) (fun i _ hi => if_neg hi)
        simp only [if_true] at this
        omega
    · refine ⟨s, fun b hb => ?_, s2, Nat.le_trans s3 (Nat.mul_le_mul_right _ (Nat.le_succ _))⟩
      rw [g37, if_neg (by omega)]
      exact s1 b hb
  · exact R.h1.to (Ei 27 (by decide)) (Ei 41 (by decide)) (Ei 42 (by decide)) (Ei 43 (by decide)) (Ei 44 (by decide)) (Ei 45 (by decide)) (congrFun Er 27) (E33 0 (by decide))
  · obtain ⟨nc', nk', ⟨t1, t2⟩, ⟨t3, t4⟩, t5, t6⟩ := R.bk
    have : nc' = nc := (nI_eq (by omega) (by omega)).mp (t1.symm.trans ec)
    subst this
    have : nk' = nk := (nI_eq (by omega) (by omega)).mp (t3.symm.trans ek)
    subst this
    have g38 : kl g 38 39 40 nk' = kl h 38 39 40 nk' := by
      unfold kl
      rw [c4 38 (by decide), c3 39 (by decide), c3 40 (by decide)]
    have g7 : kl G 7 8 9 (nc' + 1) = kl g 7 8 9 (nc' + 1) := by
      unfold kl
      rw [e4 7 (by decide), e3 8 (by decide), e3 9 (by decide)]
    have ae : alv M (key, nI t, nI m) = true := by
      unfold alv
      rw [decide_eq_true_eq]
      show nI M < nI m + nI 1000
      rw [nI_add]
      exact nI_lt (by omega) (by omega)
    refine ⟨nc' + 1, ng + 1, ⟨by rw [e3 6 (by decide)]; exact c5, by omega⟩, ⟨e6, by omega⟩, ?_, fun e he => ?_⟩
    · rw [g7, c6, e7, g38, List.filter_append, filter_idem, ← t5]
      simp [ae]
    · rw [e7, g38, ← t5] at he
      rcases List.mem_append.mp he with q | q
      · rw [t5] at q
        exact t6 e (List.mem_filter.mp q).1
      · rw [List.mem_singleton.mp q]
        exact ⟨m, hm.1, rfl⟩
  · intro t' ht'
    obtain ⟨⟨p0, p1, p2, p3⟩, q, u, b, w1, w2⟩ := R.bz t' ht'
    have i13 : ∀ y, qg_l G 13 t' y = if ad = true ∧ t' = t ∧ y = r then qg_l h 13 t' y + nL U else qg_l h 13 t' y := fun y => by rw [e4 13 (by decide), c8]
    have i14 : ∀ y, qg_l G 14 t' y = if ad = true ∧ t' = t ∧ y = r then qg_l h 14 t' y + d else qg_l h 14 t' y := fun y => by rw [e4 14 (by decide), c9]
    have ix : ∀ y, y < 4 → ((ad = true ∧ 4 * t' + y = 4 * t + r) ↔ (ad = true ∧ t' = t ∧ y = r)) := fun y hy => by
      constructor
      · rintro ⟨z1, z2⟩
        exact ⟨z1, by omega, by omega⟩
      · rintro ⟨z1, z2, z3⟩
        exact ⟨z1, by omega⟩
    have i54 : ∀ y, y < 4 → qg_l G 54 0 (4 * t' + y) = if ad = true ∧ t' = t ∧ y = r then qg_l h 54 0 (4 * t' + y) + nL U else qg_l h 54 0 (4 * t' + y) := fun y hy => by
      rw [e9, c4 54 (by decide)]
      simp only [ix y hy]
    have i55 : ∀ y, y < 4 → qg_l G 55 0 (4 * t' + y) = if ad = true ∧ t' = t ∧ y = r then qg_l h 55 0 (4 * t' + y) + d else qg_l h 55 0 (4 * t' + y) := fun y hy => by
      rw [e10, c4 55 (by decide)]
      simp only [ix y hy]
    have i56 : ∀ y, y < 4 → qg_i G 56 0 (4 * t' + y) = if ad = true ∧ t' = t ∧ y = r then 1 else qg_i h 56 0 (4 * t' + y) := fun y hy => by
      rw [e11, c3 56 (by decide)]
      simp only [ix y hy]
    have hcb : c * CB ≤ 511 * CB := Nat.mul_le_mul_right _ (by omega)
    have hsu : (c + 1) * CB = c * CB + CB := by rw [Nat.add_mul]; omega
    have hbr : ∀ y, y < 4 → b y ≤ b 0 + b 1 + b 2 + b 3 := fun y hy => by
      rcases (show y = 0 ∨ y = 1 ∨ y = 2 ∨ y = 3 by omega) with rfl | rfl | rfl | rfl <;> omega
    refine ⟨⟨p0, p1, ?_, ?_⟩, fun y hy => ?_, fun y => if ad = true ∧ t' = t ∧ y = r then u y + U else u y, fun y => if ad = true ∧ t' = t ∧ y = r then b y + CB else b y, fun y hy => ?_, ?_⟩
    · rw [Ei 10 (by decide)]
      exact p2
    · rw [Ei 53 (by decide)]
      exact p3
    · obtain ⟨q1, q2, q3, q4⟩ := q y hy
      rw [i13, i14, i54 y hy, i55 y hy, i56 y hy]
      by_cases z : ad = true ∧ t' = t ∧ y = r
      · rw [if_pos z, if_pos z, if_pos z, if_pos z, if_pos z, q1, q2]
        obtain ⟨w3, w4, -⟩ := w1 y hy
        rw [← q1, w3, nL_add, nL_pos (by omega)]
        refine ⟨rfl, rfl, ?_, fun x => by omega⟩
        constructor
        · intro x
          exact absurd x (by decide)
        · intro x
          omega
      · rw [if_neg z, if_neg z, if_neg z, if_neg z, if_neg z]
        exact ⟨q1, q2, q3, q4⟩
    · obtain ⟨w3, w4, w5, w6⟩ := w1 y hy
      have := hbr y hy
      rw [i13, i14]
      by_cases z : ad = true ∧ t' = t ∧ y = r
      · simp only [if_pos z]
        rw [w3, nL_add]
        have hs := (ab_add (x := qg_l h 14 t' y) (y := d) (A := 511 * CB) (B := CB) (by unfold ab; omega) hd (by unfold CB; omega)).1
        rw [hs]
        unfold ab at hd
        refine ⟨rfl, by omega, by omega, by omega⟩
      · simp only [if_neg z]
        exact ⟨w3, Nat.le_trans w4 (Nat.mul_le_mul_right _ (Nat.le_succ _)), w5, w6⟩
    · rw [hsu]
      refine Nat.le_trans (sm4 (r := r) (f := b) (g := fun y => if ad = true ∧ t' = t ∧ y = r then b y + CB else b y) (K := CB) hr (fun i hi => if_neg (fun z => hi z.2.2)) ?_) (by omega)
      show (if ad = true ∧ t' = t ∧ r = r then b r + CB else b r) ≤ b r + CB
      by_cases z : ad = true ∧ t' = t ∧ r = r
      · rw [if_pos z]
        exact Nat.le_refl _
      · rw [if_neg z]
        exact Nat.le_add_right _ _
end EV
