/-! The reference: a period is closed -/
section RN
variable {h : qH}
/-- heap, sum, lines so far -/
def CI (h : qH) (ni lm : Nat) (g : qH × Int64 × Nat) : Prop := (qg_n g.1 = qg_n h ∧ qg_r g.1 = qg_r h) ∧ qg_i g.1 59 0 ni = nI g.2.2 ∧ g.2.2 ≤ lm ∧ (∀ a b k, a ≠ 59 → a ≠ 56 → qg_i g.1 a b k = qg_i h a b k) ∧ (∀ a b k, a ≠ 60 → a ≠ 54 → a ≠ 55 → (a ≠ 46 ∨ k < 432) → qg_l g.1 a b k = qg_l h a b k)
theorem CI.line {ni lm : Nat} {g : qH × Int64 × Nat} (C : CI h ni lm g) (kd rs : Int32) (q m s : Int64) : CI h ni (lm + 1) (m_line g.1 ni g.2.2 kd rs q m, s, g.2.2 + 1) := by
  obtain ⟨c1, c2, c3, c4, c5⟩ := C
  refine ⟨c1, by simp [m_line, qii, qil], by simp; omega, fun a b k h1 h2 => ?_, fun a b k h1 h2 h3 h4 => ?_⟩
  · rw [← c4 a b k h1 h2]
    simp [m_line, qii, qil, h1]
  · rw [← c5 a b k h1 h2 h3 h4]
    simp [m_line, qll, qli, h1]
theorem CI.up {ni lm lm' : Nat} {g : qH × Int64 × Nat} (C : CI h ni lm g) (hl : lm ≤ lm') : CI h ni lm' g := ⟨C.1, C.2.1, by have := C.2.2.1; omega, C.2.2.2⟩
theorem CI.shr {ni lm : Nat} {g : qH × Int64 × Nat} (C : CI h ni lm g) (hS : SHR h) : SHR g.1 := fun k => by rw [C.1.2]; exact hS k
def c_7 (h : qH) (ni t p nc f : Nat) (g : qH × Int64 × Nat) : qH := qs_i (qs_i (ucr t nc ni (nI p) f g.1 g.2.1 g.2.2) 53 0 t (nI (p + 1))) 33 0 27 (nI (ni + 1))
def c_5 (h : qH) (ni t : Nat) (g : qH × Int64 × Nat) : qH × Int64 × Nat := if m_part g.2.1 (qg_i h 49 0 t).toInt64 = 0 then g else (m_line g.1 ni g.2.2 4 (-1) 0 (m_part g.2.1 (qg_i h 49 0 t).toInt64), g.2.1 + m_part g.2.1 (qg_i h 49 0 t).toInt64, g.2.2 + 1)
def c_4 (h : qH) (ni t : Nat) (g : qH × Int64 × Nat) : qH × Int64 × Nat := if g.2.1 < qg_l h 48 0 t then (m_line g.1 ni g.2.2 3 (-1) 0 (qg_l h 48 0 t - g.2.1), qg_l h 48 0 t, g.2.2 + 1) else g
def c_3 (h : qH) (ni t : Nat) (g : qH × Int64 × Nat) : qH × Int64 × Nat := if m_part g.2.1 (qg_i h 47 0 t).toInt64 = 0 then g else (m_line g.1 ni g.2.2 2 (-1) 0 (-m_part g.2.1 (qg_i h 47 0 t).toInt64), g.2.1 - m_part g.2.1 (qg_i h 47 0 t).toInt64, g.2.2 + 1)
theorem ucr_fr {t nc ni : Nat} {p : Int32} : ∀ (f : Nat) (g : qH) (s : Int64) (lc : Nat), (qg_n (ucr t nc ni p f g s lc) = qg_n g ∧ qg_r (ucr t nc ni p f g s lc) = qg_r g) ∧ (∀ a b k, a ≠ 59 → qg_i (ucr t nc ni p f g s lc) a b k = qg_i g a b k) ∧ (∀ a b k, a ≠ 60 → a ≠ 51 → qg_l (ucr t nc ni p f g s lc) a b k = qg_l g a b k)
  | 0, g, s, lc => ⟨⟨rfl, rfl⟩, fun _ _ _ _ => rfl, fun _ _ _ _ _ => rfl⟩
  | f + 1, g, s, lc => by
    unfold ucr
    split
    · cases hb : bst (m_cl g t) (m_cf g t) p nc with
      | none => exact ⟨⟨rfl, rfl⟩, fun _ _ _ _ => rfl, fun _ _ _ _ _ => rfl⟩
      | some b =>
        dsimp only
        obtain ⟨u1, u2, u3⟩ := ucr_fr (t := t) (nc := nc) (ni := ni) (p := p) f (uc1 g t ni lc b s) (s - m_min s (m_cf g t b)) (lc + 1)
        refine ⟨u1, fun a b' k h1 => ?_, fun a b' k h1 h2 => ?_⟩
        · rw [u2 a b' k h1]
          simp [uc1, m_line, qil, qii, h1]
        · rw [u3 a b' k h1 h2]
          simp [uc1, m_line, qll, qli, h1, h2]
    · exact ⟨⟨rfl, rfl⟩, fun _ _ _ _ => rfl, fun _ _ _ _ _ => rfl⟩
section TAIL
variable {ni t p nc f : Nat} {n0 : Nat → Nat} {Post : Option qV → qH → Prop} (hS : SHR h) (ht : t < 6) (hni : ni < 60) (hp : p < 100) (hnc : nc ≤ 40) (e27 : qg_i h 33 0 27 = nI ni) (ec : qg_i h 50 0 t = nI nc) (ep : qg_i h 53 0 t = nI p) (hcp : cpn (m_cl h t) (m_cf h t) (nI p) nc ≤ f) (hf : f ≤ 40)
theorem cl_364 (hS : SHR h) (ht : t < 6) (hni : ni < 60) (hp : p < 100) (hnc : nc ≤ 40) (e27 : qg_i h 33 0 27 = nI ni) (ec : qg_i h 50 0 t = nI nc) (ep : qg_i h 53 0 t = nI p) (hcp : cpn (m_cl h t) (m_cf h t) (nI p) nc ≤ f) (hf : f ≤ 40) {g : qH × Int64 × Nat} (C : CI h ni 11 g) (hP : Post (some (.inl (nI ni))) (c_7 h ni t p nc f g)) : Vw yX8_close cX8_close 10 ((some .int)) (qrm 2 62 0 0) 0 0 n0 Post 364 [(0, .inr (.inr (some (33, 0)))), (1, .inl (nI t)), (2, .inl (nI p)), (3, .inr (.inl g.2.1))] [] g.1 0 0 := by
  have hSg := C.shr hS
  have e1 : m_cl g.1 t = m_cl h t := funext fun k => C.2.2.2.1 52 0 _ (by decide) (by decide)
  have e2 : m_cf g.1 t = m_cf h t := funext fun k => C.2.2.2.2 51 0 _ (by decide) (by decide) (by decide) (Or.inl (by decide))
  have hU := ucr_fr (t := t) (nc := nc) (ni := ni) (p := nI p) f g.1 g.2.1 g.2.2
  have hSu : SHR (ucr t nc ni (nI p) f g.1 g.2.1 g.2.2) := fun k => by rw [hU.1.2]; exact hSg k
  have e53 : qg_i (ucr t nc ni (nI p) f g.1 g.2.1 g.2.2) 53 0 t = nI p := by rw [hU.2.1 53 0 t (by decide), C.2.2.2.1 53 0 t (by decide) (by decide)]; exact ep
  have e28 : qg_i (ucr t nc ni (nI p) f g.1 g.2.1 g.2.2) 33 0 27 = nI ni := by rw [hU.2.1 33 0 27 (by decide), C.2.2.2.1 33 0 27 (by decide) (by decide)]; exact e27
  have hl := C.2.2.1
  refine V_aload_n 365 dX8_close_364 rfl rfl ?_
  refine V_iload_n 366 dX8_close_365 rfl rfl ?_
  refine V_iload_n 367 dX8_close_366 rfl rfl ?_
  refine V_lload_n 368 dX8_close_367 rfl rfl ?_
  refine V_cV3v 371 (ct_X8_useCredits hSg ht hnc hni (by rw [C.2.2.2.1 33 0 27 (by decide) (by decide)]; exact e27) C.2.1 (by rw [C.2.2.2.1 50 0 t (by decide) (by decide)]; exact ec) (by rw [e1, e2]; exact hcp) (show _ ≤ 59 by omega)) cs_X8_223 rfl rfl (by decide) dX8_close_368 rfl ⟨Nat.le_of_ble_eq_true rfl, Nat.le_of_ble_eq_true rfl⟩ (Nat.le_of_ble_eq_true rfl) ⟨Nat.le_of_ble_eq_true rfl, Nat.le_of_ble_eq_true rfl⟩ (fun h' hx hle => ?_)
  obtain rfl := hx
  refine V_aload_n 372 dX8_close_371 rfl rfl ?_
  refine V_getR 375 8 23 fl_X8_49 dX8_close_372 rfl rfl (by decide) (Or.inr ⟨_, rfl⟩) (by decide) (sr_23 hSu) ?_
  refine V_iload_n 376 dX8_close_375 rfl rfl ?_
  refine V_dup2 377 dX8_close_376 rfl ?_
  refine V_ialdV 378 (_) dX8_close_377 rfl rfl (by decide) rfl (show _ < 6 by omega) (by decide) e53 ?_
  refine V_iconst (v := 1) 379 dX8_close_378 rfl (by decide) ?_
  refine V_iadd 380 dX8_close_379 rfl ?_
  rw [nI_1]
  refine V_iastN 381 (_) dX8_close_380 rfl rfl (by decide) rfl (show _ < 6 by omega) (by decide) ?_
  refine V_aload_n 382 dX8_close_381 rfl rfl ?_
  refine V_dup 383 dX8_close_382 rfl ?_
  refine V_getiV 386 8 27 fl_X8_206 dX8_close_383 rfl rfl (by decide) rfl (by decide) e28 ?_
  refine V_iconst (v := 1) 387 dX8_close_386 rfl (by decide) ?_
  refine V_iadd 388 dX8_close_387 rfl ?_
  rw [nI_1]
  refine V_puti 391 8 27 fl_X8_206 dX8_close_388 rfl rfl (by decide) rfl (by decide) (Or.inl rfl) ?_
  refine V_aload_n 392 dX8_close_391 rfl rfl ?_
  refine V_getiV 395 8 27 fl_X8_206 dX8_close_392 rfl rfl (by decide) rfl (by decide) (show _ = nI (ni + 1) from rfl) ?_
  refine V_iconst (v := 1) 396 dX8_close_395 rfl (by decide) ?_
  refine V_isub 397 dX8_close_396 rfl ?_
  rw [nI_pred]
  refine V_iret dX8_close_397 rfl rfl ?_ (by first | exact Nat.le_refl _ | decide | omega) (by first | exact Nat.le_refl _ | decide | omega)
  exact hP
theorem cl_331 (hS : SHR h) (ht : t < 6) (hni : ni < 60) (hp : p < 100) (hnc : nc ≤ 40) (e27 : qg_i h 33 0 27 = nI ni) (ec : qg_i h 50 0 t = nI nc) (ep : qg_i h 53 0 t = nI p) (hcp : cpn (m_cl h t) (m_cf h t) (nI p) nc ≤ f) (hf : f ≤ 40) {g : qH × Int64 × Nat} (C : CI h ni 10 g) (hP : Post (some (.inl (nI ni))) (c_7 h ni t p nc f (c_5 h ni t g))) : Vw yX8_close cX8_close 10 ((some .int)) (qrm 2 62 0 0) 0 0 n0 Post 331 [(0, .inr (.inr (some (33, 0)))), (1, .inl (nI t)), (2, .inl (nI p)), (3, .inr (.inl g.2.1))] [] g.1 0 0 := by
  have hSg := C.shr hS
  have et : qg_i g.1 49 0 t = qg_i h 49 0 t := C.2.2.2.1 49 0 t (by decide) (by decide)
  have hl := C.2.2.1
  unfold c_5 at hP
  refine V_lload_n 332 dX8_close_331 rfl rfl ?_
  refine V_aload_n 333 dX8_close_332 rfl rfl ?_
  refine V_getR 336 8 19 fl_X8_140 dX8_close_333 rfl rfl (by decide) (Or.inr ⟨_, rfl⟩) (by decide) (sr_19 hSg) ?_
  refine V_iload_n 337 dX8_close_336 rfl rfl ?_
  refine V_ialdV 338 (_) dX8_close_337 rfl rfl (by decide) rfl (show _ < 6 by omega) (by decide) et ?_
  refine V_cS2l 341 (ct_X8_part _) cs_X8_219 dX8_close_338 rfl ⟨Nat.le_of_ble_eq_true rfl, Nat.le_of_ble_eq_true rfl⟩ (Nat.le_of_ble_eq_true rfl) ⟨Nat.le_of_ble_eq_true rfl, Nat.le_of_ble_eq_true rfl⟩ (fun x h' hx hle => ?_)
  obtain ⟨rfl, rfl⟩ := hx
  refine V_lstore 343 dX8_close_341 rfl (by decide) ?_
  refine V_lload 345 dX8_close_343 rfl rfl ?_
  refine V_lconst (v := 0) 346 dX8_close_345 rfl (by decide) ?_
  refine V_lcmp 347 dX8_close_346 rfl ?_
  refine V_if_eq 364 350 dX8_close_347 rfl rfl (fun c_347 => ?_) (fun c_347 => ?_)
  · (rw [lg_eq] at c_347)
    rw [if_pos c_347] at hP
    have CC := C.up (show 10 ≤ 11 by decide)
    exact V_at (cl_364 hS ht hni hp hnc e27 ec ep hcp hf CC hP) ⟨rfl, rfl, rfl, rfl, trivial⟩
  · (rw [lg_eq] at c_347)
    rw [if_neg c_347] at hP
    refine V_aload_n 351 dX8_close_350 rfl rfl ?_
    refine V_iconst (v := 4) 352 dX8_close_351 rfl (by decide) ?_
    refine V_iconst (v := (-1)) 353 dX8_close_352 rfl (by decide) ?_
    refine V_lconst (v := 0) 354 dX8_close_353 rfl (by decide) ?_
    refine V_lload 356 dX8_close_354 rfl rfl ?_
    refine V_cV4v 359 (ct_X8_line hSg (by rw [C.2.2.2.1 33 0 27 (by decide) (by decide)]; exact e27) hni C.2.1 (by omega)) cs_X8_215 rfl rfl (by decide) dX8_close_356 rfl ⟨Nat.le_of_ble_eq_true rfl, Nat.le_of_ble_eq_true rfl⟩ (Nat.le_of_ble_eq_true rfl) ⟨Nat.le_of_ble_eq_true rfl, Nat.le_of_ble_eq_true rfl⟩ (fun h' hx hle => ?_)
    obtain rfl := hx
    have CC := C.line 4 (-1) 0 (m_part g.2.1 (qg_i h 49 0 t).toInt64) (g.2.1 + m_part g.2.1 (qg_i h 49 0 t).toInt64)
    refine V_lload_n 360 dX8_close_359 rfl rfl ?_
    refine V_lload 362 dX8_close_360 rfl rfl ?_
    refine V_ladd 363 dX8_close_362 rfl ?_
    refine V_lstore_n 364 dX8_close_363 rfl (by decide) ?_
    exact V_at (cl_364 hS ht hni hp hnc e27 ec ep hcp hf CC hP) ⟨rfl, rfl, rfl, rfl, trivial⟩
theorem cl_298 (hS : SHR h) (ht : t < 6) (hni : ni < 60) (hp : p < 100) (hnc : nc ≤ 40) (e27 : qg_i h 33 0 27 = nI ni) (ec : qg_i h 50 0 t = nI nc) (ep : qg_i h 53 0 t = nI p) (hcp : cpn (m_cl h t) (m_cf h t) (nI p) nc ≤ f) (hf : f ≤ 40) {g : qH × Int64 × Nat} (C : CI h ni 9 g) (hP : Post (some (.inl (nI ni))) (c_7 h ni t p nc f (c_5 h ni t (c_4 h ni t g)))) : Vw yX8_close cX8_close 10 ((some .int)) (qrm 2 62 0 0) 0 0 n0 Post 298 [(0, .inr (.inr (some (33, 0)))), (1, .inl (nI t)), (2, .inl (nI p)), (3, .inr (.inl g.2.1))] [] g.1 0 0 := by
  have hSg := C.shr hS
  have et : qg_l g.1 48 0 t = qg_l h 48 0 t := C.2.2.2.2 48 0 t (by decide) (by decide) (by decide) (Or.inl (by decide))
  have hl := C.2.2.1
  unfold c_4 at hP
  refine V_lload_n 299 dX8_close_298 rfl rfl ?_
  refine V_aload_n 300 dX8_close_299 rfl rfl ?_
  refine V_getR 303 8 18 fl_X8_137 dX8_close_300 rfl rfl (by decide) (Or.inr ⟨_, rfl⟩) (by decide) (sr_18 hSg) ?_
  refine V_iload_n 304 dX8_close_303 rfl rfl ?_
  refine V_laldV 305 (_) dX8_close_304 rfl rfl (by decide) rfl (show _ < 6 by omega) (by decide) et ?_
  refine V_lcmp 306 dX8_close_305 rfl ?_
  refine V_if_ge 331 309 dX8_close_306 rfl rfl (fun c_306 => ?_) (fun c_306 => ?_)
  · (rw [lg_ge] at c_306)
    rw [if_neg (by grind)] at hP
    have CC := C.up (show 9 ≤ 10 by decide)
    exact V_at (cl_331 hS ht hni hp hnc e27 ec ep hcp hf CC hP) ⟨rfl, rfl, rfl, rfl, trivial⟩
  · (rw [lg_ge] at c_306)
    rw [if_pos (by grind)] at hP
    refine V_aload_n 310 dX8_close_309 rfl rfl ?_
    refine V_iconst (v := 3) 311 dX8_close_310 rfl (by decide) ?_
    refine V_iconst (v := (-1)) 312 dX8_close_311 rfl (by decide) ?_
    refine V_lconst (v := 0) 313 dX8_close_312 rfl (by decide) ?_
    refine V_aload_n 314 dX8_close_313 rfl rfl ?_
    refine V_getR 317 8 18 fl_X8_137 dX8_close_314 rfl rfl (by decide) (Or.inr ⟨_, rfl⟩) (by decide) (sr_18 hSg) ?_
    refine V_iload_n 318 dX8_close_317 rfl rfl ?_
    refine V_laldV 319 (_) dX8_close_318 rfl rfl (by decide) rfl (show _ < 6 by omega) (by decide) et ?_
    refine V_lload_n 320 dX8_close_319 rfl rfl ?_
    refine V_lsub 321 dX8_close_320 rfl ?_
    refine V_cV4v 324 (ct_X8_line hSg (by rw [C.2.2.2.1 33 0 27 (by decide) (by decide)]; exact e27) hni C.2.1 (by omega)) cs_X8_215 rfl rfl (by decide) dX8_close_321 rfl ⟨Nat.le_of_ble_eq_true rfl, Nat.le_of_ble_eq_true rfl⟩ (Nat.le_of_ble_eq_true rfl) ⟨Nat.le_of_ble_eq_true rfl, Nat.le_of_ble_eq_true rfl⟩ (fun h' hx hle => ?_)
    obtain rfl := hx
    have CC := C.line 3 (-1) 0 (qg_l h 48 0 t - g.2.1) (qg_l h 48 0 t)
    refine V_aload_n 325 dX8_close_324 rfl rfl ?_
    refine V_getR 328 8 18 fl_X8_137 dX8_close_325 rfl rfl (by decide) (Or.inr ⟨_, rfl⟩) (by decide) (sr_18 hSg) ?_
    refine V_iload_n 329 dX8_close_328 rfl rfl ?_
    refine V_laldV 330 (_) dX8_close_329 rfl rfl (by decide) rfl (show _ < 6 by omega) (by decide) et ?_
    refine V_lstore_n 331 dX8_close_330 rfl (by decide) ?_
    exact V_at (cl_331 hS ht hni hp hnc e27 ec ep hcp hf CC hP) ⟨rfl, rfl, rfl, rfl, trivial⟩
theorem cl_264 (hS : SHR h) (ht : t < 6) (hni : ni < 60) (hp : p < 100) (hnc : nc ≤ 40) (e27 : qg_i h 33 0 27 = nI ni) (ec : qg_i h 50 0 t = nI nc) (ep : qg_i h 53 0 t = nI p) (hcp : cpn (m_cl h t) (m_cf h t) (nI p) nc ≤ f) (hf : f ≤ 40) {g : qH × Int64 × Nat} (C : CI h ni 8 g) (hP : Post (some (.inl (nI ni))) (c_7 h ni t p nc f (c_5 h ni t (c_4 h ni t (c_3 h ni t g))))) : Vw yX8_close cX8_close 10 ((some .int)) (qrm 2 62 0 0) 0 0 n0 Post 264 [(0, .inr (.inr (some (33, 0)))), (1, .inl (nI t)), (2, .inl (nI p)), (3, .inr (.inl g.2.1))] [] g.1 0 0 := by
  have hSg := C.shr hS
  have et : qg_i g.1 47 0 t = qg_i h 47 0 t := C.2.2.2.1 47 0 t (by decide) (by decide)
  have hl := C.2.2.1
  unfold c_3 at hP
  refine V_lload_n 265 dX8_close_264 rfl rfl ?_
  refine V_aload_n 266 dX8_close_265 rfl rfl ?_
  refine V_getR 269 8 17 fl_X8_134 dX8_close_266 rfl rfl (by decide) (Or.inr ⟨_, rfl⟩) (by decide) (sr_17 hSg) ?_
  refine V_iload_n 270 dX8_close_269 rfl rfl ?_
  refine V_ialdV 271 (_) dX8_close_270 rfl rfl (by decide) rfl (show _ < 6 by omega) (by decide) et ?_
  refine V_cS2l 274 (ct_X8_part _) cs_X8_219 dX8_close_271 rfl ⟨Nat.le_of_ble_eq_true rfl, Nat.le_of_ble_eq_true rfl⟩ (Nat.le_of_ble_eq_true rfl) ⟨Nat.le_of_ble_eq_true rfl, Nat.le_of_ble_eq_true rfl⟩ (fun x h' hx hle => ?_)
  obtain ⟨rfl, rfl⟩ := hx
  refine V_lstore 276 dX8_close_274 rfl (by decide) ?_
  refine V_lload 278 dX8_close_276 rfl rfl ?_
  refine V_lconst (v := 0) 279 dX8_close_278 rfl (by decide) ?_
  refine V_lcmp 280 dX8_close_279 rfl ?_
  refine V_if_eq 298 283 dX8_close_280 rfl rfl (fun c_280 => ?_) (fun c_280 => ?_)
  · (rw [lg_eq] at c_280)
    rw [if_pos c_280] at hP
    have CC := C.up (show 8 ≤ 9 by decide)
    exact V_at (cl_298 hS ht hni hp hnc e27 ec ep hcp hf CC hP) ⟨rfl, rfl, rfl, rfl, trivial⟩
  · (rw [lg_eq] at c_280)
    rw [if_neg c_280] at hP
    refine V_aload_n 284 dX8_close_283 rfl rfl ?_
    refine V_iconst (v := 2) 285 dX8_close_284 rfl (by decide) ?_
    refine V_iconst (v := (-1)) 286 dX8_close_285 rfl (by decide) ?_
    refine V_lconst (v := 0) 287 dX8_close_286 rfl (by decide) ?_
    refine V_lload 289 dX8_close_287 rfl rfl ?_
    refine V_lneg 290 dX8_close_289 rfl ?_
    refine V_cV4v 293 (ct_X8_line hSg (by rw [C.2.2.2.1 33 0 27 (by decide) (by decide)]; exact e27) hni C.2.1 (by omega)) cs_X8_215 rfl rfl (by decide) dX8_close_290 rfl ⟨Nat.le_of_ble_eq_true rfl, Nat.le_of_ble_eq_true rfl⟩ (Nat.le_of_ble_eq_true rfl) ⟨Nat.le_of_ble_eq_true rfl, Nat.le_of_ble_eq_true rfl⟩ (fun h' hx hle => ?_)
    obtain rfl := hx
    have CC := C.line 2 (-1) 0 (-m_part g.2.1 (qg_i h 47 0 t).toInt64) (g.2.1 - m_part g.2.1 (qg_i h 47 0 t).toInt64)
    refine V_lload_n 294 dX8_close_293 rfl rfl ?_
    refine V_lload 296 dX8_close_294 rfl rfl ?_
    refine V_lsub 297 dX8_close_296 rfl ?_
    refine V_lstore_n 298 dX8_close_297 rfl (by decide) ?_
    exact V_at (cl_298 hS ht hni hp hnc e27 ec ep hcp hf CC hP) ⟨rfl, rfl, rfl, rfl, trivial⟩
end TAIL
/-- the adjustments that wait are billed -/
def z3 (g : qH) (k : Nat) : qH := qs_l (qs_l (qs_i g 56 0 k 0) 54 0 k 0) 55 0 k 0
def c_2 (h : qH) (ni t : Nat) (g0 : qH × Int64 × Nat) : Nat → qH × Int64 × Nat
  | 0 => g0
  | r + 1 => if qg_i h 56 0 (4 * t + r) = 0 then c_2 h ni t g0 r else (z3 (m_line (c_2 h ni t g0 r).1 ni (c_2 h ni t g0 r).2.2 1 (nI r) (qg_l h 54 0 (4 * t + r)) (qg_l h 55 0 (4 * t + r))) (4 * t + r), (c_2 h ni t g0 r).2.1 + qg_l h 55 0 (4 * t + r), (c_2 h ni t g0 r).2.2 + 1)
def WT (h : qH) (t r : Nat) (g : qH) : Prop := ∀ r', r ≤ r' → r' < 4 → qg_i g 56 0 (4 * t + r') = qg_i h 56 0 (4 * t + r') ∧ qg_l g 54 0 (4 * t + r') = qg_l h 54 0 (4 * t + r') ∧ qg_l g 55 0 (4 * t + r') = qg_l h 55 0 (4 * t + r')
theorem c2_fr {ni t lm : Nat} {g0 : qH × Int64 × Nat} (C : CI h ni lm g0) (hW : WT h t 0 g0.1) : ∀ r, r ≤ 4 → CI h ni (lm + r) (c_2 h ni t g0 r) ∧ WT h t r (c_2 h ni t g0 r).1
  | 0, _ => ⟨C, hW⟩
  | r + 1, hr => by
    obtain ⟨c1, c2⟩ := c2_fr C hW r (by omega)
    unfold c_2
    split
    · exact ⟨c1.up (by omega), fun r' q1 q2 => c2 r' (by omega) q2⟩
    · obtain ⟨d1, d2, d3, d4, d5⟩ := c1.line 1 (nI r) (qg_l h 54 0 (4 * t + r)) (qg_l h 55 0 (4 * t + r)) ((c_2 h ni t g0 r).2.1 + qg_l h 55 0 (4 * t + r))
      refine ⟨⟨d1, ?_, by have := d3; simp at this ⊢; omega, fun a b k h1 h2 => ?_, fun a b k h1 h2 h3 h4 => ?_⟩, fun r' q1 q2 => ?_⟩
      · rw [← d2]
        simp [z3, qil, qii]
      · rw [← d4 a b k h1 h2]
        simp [z3, qil, qii, h2]
      · rw [← d5 a b k h1 h2 h3 h4]
        simp [z3, qli, qll, h2, h3]
      · obtain ⟨w1, w2, w3⟩ := c2 r' (by omega) q2
        have : r' ≠ r := by omega
        rw [← w1, ← w2, ← w3]
        simp [z3, m_line, qli, qll, qil, qii, this]
theorem lp_X8_cl2 {ni t p lm : Nat} {g0 : qH × Int64 × Nat} (hS : SHR h) (ht : t < 6) (hni : ni < 60) (e27 : qg_i h 33 0 27 = nI ni) (C : CI h ni lm g0) (hlm : lm ≤ 4) (hW : WT h t 0 g0.1) {n0 : Nat → Nat} {Post : Option qV → qH → Prop}
    (K : Vw yX8_close cX8_close 10 ((some .int)) (qrm 2 62 0 0) 0 0 n0 Post 264 [(0, .inr (.inr (some (33, 0)))), (1, .inl (nI t)), (2, .inl (nI p)), (3, .inr (.inl (c_2 h ni t g0 4).2.1))] [] (c_2 h ni t g0 4).1 0 0) :
    ∀ (m r : Nat), r + m = 4 → Vw yX8_close cX8_close 10 ((some .int)) (qrm 2 62 0 0) 0 0 n0 Post 179 [(0, .inr (.inr (some (33, 0)))), (1, .inl (nI t)), (2, .inl (nI p)), (3, .inr (.inl (c_2 h ni t g0 r).2.1)), (5, .inl (nI r))] [] (c_2 h ni t g0 r).1 0 0 := by
  intro m
  induction m with
  | zero =>
    intro r hr
    have hr : r = 4 := by omega
    subst hr
    refine V_iload 181 dX8_close_179 rfl rfl ?_
    refine V_iconst (v := 4) 182 dX8_close_181 rfl (by decide) ?_
    refine V_icmp_ge 264 185 dX8_close_182 rfl rfl (fun c_182 => ?_) (fun c_182 => ?_)
    · skip
      exact V_at K ⟨rfl, rfl, rfl, rfl, trivial⟩
    · skip
      exact absurd (by decide) c_182
  | succ m ih =>
    intro r hr
    obtain ⟨c1, c2⟩ := c2_fr C hW r (by omega)
    obtain ⟨w1, w2, w3⟩ := c2 r (Nat.le_refl _) (by omega)
    have hSg := c1.shr hS
    have ih := ih (r + 1) (by omega)
    have hl := c1.2.2.1
    have ek : (4 : Int32) * nI t + nI r = nI (4 * t + r) := by rw [show (4 : Int32) = nI 4 from rfl, pk_mul, nI_add]
    unfold c_2 at ih
    refine V_iload 181 dX8_close_179 rfl rfl ?_
    refine V_iconst (v := 4) 182 dX8_close_181 rfl (by decide) ?_
    refine V_icmp_ge 264 185 dX8_close_182 rfl rfl (fun c_182 => ?_) (fun c_182 => ?_)
    · skip
      exact absurd c_182 (nI_ge (b := 4) (by omega) (by omega))
    · skip
      refine V_iconst (v := 4) 186 dX8_close_185 rfl (by decide) ?_
      refine V_iload_n 187 dX8_close_186 rfl rfl ?_
      refine V_imul 188 dX8_close_187 rfl ?_
      refine V_iload 190 dX8_close_188 rfl rfl ?_
      refine V_iadd 191 dX8_close_190 rfl ?_
      rw [ek]
      refine V_istore 193 dX8_close_191 rfl (by decide) ?_
      refine V_aload_n 194 dX8_close_193 rfl rfl ?_
      refine V_getR 197 8 26 fl_X8_158 dX8_close_194 rfl rfl (by decide) (Or.inr ⟨_, rfl⟩) (by decide) (sr_26 hSg) ?_
      refine V_iload 199 dX8_close_197 rfl rfl ?_
      refine V_zaldV 200 (_) dX8_close_199 rfl rfl (by decide) rfl (show _ < 24 by omega) (by decide) w1 ?_
      refine V_if_eq 258 203 dX8_close_200 rfl rfl (fun c_200 => ?_) (fun c_200 => ?_)
      · skip
        rw [if_pos c_200] at ih
        refine V_iincN 261 dX8_close_258 rfl rfl (by decide) ?_
        refine V_goto 179 dX8_close_261 rfl ?_
        exact V_at ih ⟨rfl, rfl, rfl, rfl, rfl, trivial⟩
      · skip
        rw [if_neg c_200] at ih
        refine V_aload_n 204 dX8_close_203 rfl rfl ?_
        refine V_iconst (v := 1) 205 dX8_close_204 rfl (by decide) ?_
        refine V_iload 207 dX8_close_205 rfl rfl ?_
        refine V_aload_n 208 dX8_close_207 rfl rfl ?_
        refine V_getR 211 8 24 fl_X8_152 dX8_close_208 rfl rfl (by decide) (Or.inr ⟨_, rfl⟩) (by decide) (sr_24 hSg) ?_
        refine V_iload 213 dX8_close_211 rfl rfl ?_
        refine V_laldV 214 (_) dX8_close_213 rfl rfl (by decide) rfl (show _ < 24 by omega) (by decide) w2 ?_
        refine V_aload_n 215 dX8_close_214 rfl rfl ?_
        refine V_getR 218 8 25 fl_X8_155 dX8_close_215 rfl rfl (by decide) (Or.inr ⟨_, rfl⟩) (by decide) (sr_25 hSg) ?_
        refine V_iload 220 dX8_close_218 rfl rfl ?_
        refine V_laldV 221 (_) dX8_close_220 rfl rfl (by decide) rfl (show _ < 24 by omega) (by decide) w3 ?_
        refine V_cV4v 224 (ct_X8_line hSg (by rw [c1.2.2.2.1 33 0 27 (by decide) (by decide)]; exact e27) hni c1.2.1 (by omega)) cs_X8_215 rfl rfl (by decide) dX8_close_221 rfl ⟨Nat.le_of_ble_eq_true rfl, Nat.le_of_ble_eq_true rfl⟩ (Nat.le_of_ble_eq_true rfl) ⟨Nat.le_of_ble_eq_true rfl, Nat.le_of_ble_eq_true rfl⟩ (fun h' hx hle => ?_)
        obtain rfl := hx
        refine V_lload_n 225 dX8_close_224 rfl rfl ?_
        refine V_aload_n 226 dX8_close_225 rfl rfl ?_
        refine V_getR 229 8 25 fl_X8_155 dX8_close_226 rfl rfl (by decide) (Or.inr ⟨_, rfl⟩) (by decide) (sr_25 hSg) ?_
        refine V_iload 231 dX8_close_229 rfl rfl ?_
        refine V_laldV 232 (_) dX8_close_231 rfl rfl (by decide) rfl (show _ < 24 by omega) (by decide) w3 ?_
        refine V_ladd 233 dX8_close_232 rfl ?_
        refine V_lstore_n 234 dX8_close_233 rfl (by decide) ?_
        refine V_aload_n 235 dX8_close_234 rfl rfl ?_
        refine V_getR 238 8 26 fl_X8_158 dX8_close_235 rfl rfl (by decide) (Or.inr ⟨_, rfl⟩) (by decide) (sr_26 hSg) ?_
        refine V_iload 240 dX8_close_238 rfl rfl ?_
        refine V_iconst (v := 0) 241 dX8_close_240 rfl (by decide) ?_
        refine V_zastN 242 (_) dX8_close_241 rfl rfl (by decide) rfl (show _ < 24 by omega) (by decide) rfl ?_
        refine V_aload_n 243 dX8_close_242 rfl rfl ?_
        refine V_getR 246 8 24 fl_X8_152 dX8_close_243 rfl rfl (by decide) (Or.inr ⟨_, rfl⟩) (by decide) (sr_24 hSg) ?_
        refine V_iload 248 dX8_close_246 rfl rfl ?_
        refine V_lconst (v := 0) 249 dX8_close_248 rfl (by decide) ?_
        refine V_lastN 250 (_) dX8_close_249 rfl rfl (by decide) rfl (show _ < 24 by omega) (by decide) ?_
        refine V_aload_n 251 dX8_close_250 rfl rfl ?_
        refine V_getR 254 8 25 fl_X8_155 dX8_close_251 rfl rfl (by decide) (Or.inr ⟨_, rfl⟩) (by decide) (sr_25 hSg) ?_
        refine V_iload 256 dX8_close_254 rfl rfl ?_
        refine V_lconst (v := 0) 257 dX8_close_256 rfl (by decide) ?_
        refine V_lastN 258 (_) dX8_close_257 rfl rfl (by decide) rfl (show _ < 24 by omega) (by decide) ?_
        refine V_iincN 261 dX8_close_258 rfl rfl (by decide) ?_
        refine V_goto 179 dX8_close_261 rfl ?_
        exact V_at ih ⟨rfl, rfl, rfl, rfl, rfl, trivial⟩
/-- the usage is billed, the prices are kept -/
def c_1 (ni t : Nat) (q c : Nat → Int64) (h : qH) : Nat → qH × Int64 × Nat
  | 0 => (h, 0, 0)
  | r + 1 => if 0 < q r then (m_line (qs_c (c_1 ni t q c h r).1 46 0 (18 * (4 * t + r)) (18 * (24 + 4 * ni + r)) 18) ni (c_1 ni t q c h r).2.2 0 (nI r) (q r) (c r), (c_1 ni t q c h r).2.1 + c r, (c_1 ni t q c h r).2.2 + 1) else (qs_c (c_1 ni t q c h r).1 46 0 (18 * (4 * t + r)) (18 * (24 + 4 * ni + r)) 18, (c_1 ni t q c h r).2.1, (c_1 ni t q c h r).2.2)
theorem CI.cpy {ni lm : Nat} {g : qH × Int64 × Nat} (C : CI h ni lm g) {sp dp n : Nat} (hd : 432 ≤ dp) : CI h ni lm (qs_c g.1 46 0 sp dp n, g.2) := by
  obtain ⟨c1, c2, c3, c4, c5⟩ := C
  refine ⟨c1, c2, c3, c4, fun a b k h1 h2 h3 h4 => ?_⟩
  rw [← c5 a b k h1 h2 h3 h4]
  show qg_l (qs_c g.1 46 0 sp dp n) a b k = _
  rw [qlc, if_neg]
  rintro ⟨q1, -, q2, -⟩
  rcases h4 with q | q
  · exact q q1
  · omega
theorem c1_fr {ni t : Nat} {q c : Nat → Int64} (h0 : qg_i h 59 0 ni = nI 0) : ∀ r, r ≤ 4 → CI h ni r (c_1 ni t q c h r) ∧ WT h t 0 (c_1 ni t q c h r).1
  | 0, _ => ⟨⟨⟨rfl, rfl⟩, h0, Nat.le_refl _, fun _ _ _ _ _ => rfl, fun _ _ _ _ _ _ _ => rfl⟩, fun _ _ _ => ⟨rfl, rfl, rfl⟩⟩
  | r + 1, hr => by
    obtain ⟨c1, c2⟩ := c1_fr (q := q) (c := c) (t := t) h0 r (by omega)
    have c3 := c1.cpy (sp := 18 * (4 * t + r)) (dp := 18 * (24 + 4 * ni + r)) (n := 18) (by omega)
    unfold c_1
    split
    · refine ⟨c3.line _ _ _ _ _, fun r' q1 q2 => ?_⟩
      obtain ⟨w1, w2, w3⟩ := c2 r' q1 q2
      rw [← w1, ← w2, ← w3]
      simp [m_line, qli, qll, qil, qii, qic, qlc]
    · refine ⟨c3.up (by omega), fun r' q1 q2 => ?_⟩
      obtain ⟨w1, w2, w3⟩ := c2 r' q1 q2
      rw [← w1, ← w2, ← w3]
      simp [qic, qlc]
theorem cst_congr {md sz : Int64} {k : Nat} {la pr fe la' pr' fe' : Nat → Int64} {n : Int64} (h1 : ∀ j, j ≤ k → la' j = la j ∧ pr' j = pr j ∧ fe' j = fe j) : ∀ (m j : Nat), j + m = k + 1 → ∀ s b, cst md sz k la' pr' fe' n m j s b = cst md sz k la pr fe n m j s b
  | 0, j, _, s, b => rfl
  | m + 1, j, hj, s, b => by
    unfold cst
    obtain ⟨e1, e2, e3⟩ := h1 j (by omega)
    rw [e1, e2, e3]
    split
    · exact cst_congr h1 m (j + 1) (by omega) _ _
    · rfl
theorem m_cost_rows {g : qH} {p k : Nat} {n : Int64} (hk : k < 5) (e : ∀ i, p ≤ i ∧ i < p + 18 → qg_l g 46 0 i = qg_l h 46 0 i) : m_cost g p k n = m_cost h p k n := by
  unfold m_cost
  rw [e p (by omega), e (p + 1) (by omega)]
  exact cst_congr (fun j hj => ⟨e _ (by omega), e _ (by omega), e _ (by omega)⟩) (k + 1) 0 (by omega) 0 0
/-- the prices of a tenant are fit: a size, one to five tiers -/
def WP (h : qH) (t : Nat) (kr : Nat → Nat) : Prop := ∀ r, r < 4 → kr r < 5 ∧ ¬ qg_l h 46 0 (18 * (4 * t + r) + 1) = 0 ∧ (qg_l h 46 0 (18 * (4 * t + r) + 2)).toInt32 = nI (kr r + 1)
theorem lp_X8_cl1 {ni t p na : Nat} {kr : Nat → Nat} (hS : SHR h) (ht : t < 6) (hni : ni < 60) (hp : p < 100) (e27 : qg_i h 33 0 27 = nI ni) (ea : qg_i h 33 0 1 = nI na) (hna : na ≤ 24) (h0 : qg_i h 59 0 ni = nI 0) (hk : WP h t kr) {n0 : Nat → Nat} {Post : Option qV → qH → Prop}
    (K : Vw yX8_close cX8_close 10 ((some .int)) (qrm 2 62 0 0) 0 0 n0 Post 176 [(0, .inr (.inr (some (33, 0)))), (1, .inl (nI t)), (2, .inl (nI p)), (3, .inr (.inl (c_1 ni t (fun r => m_qty h na (nI t) r p) (fun r => m_cost h (18 * (4 * t + r)) (kr r) (m_qty h na (nI t) r p)) h 4).2.1))] [] (c_1 ni t (fun r => m_qty h na (nI t) r p) (fun r => m_cost h (18 * (4 * t + r)) (kr r) (m_qty h na (nI t) r p)) h 4).1 0 0) :
    ∀ (m r : Nat), r + m = 4 → Vw yX8_close cX8_close 10 ((some .int)) (qrm 2 62 0 0) 0 0 n0 Post 83 [(0, .inr (.inr (some (33, 0)))), (1, .inl (nI t)), (2, .inl (nI p)), (3, .inr (.inl (c_1 ni t (fun r => m_qty h na (nI t) r p) (fun r => m_cost h (18 * (4 * t + r)) (kr r) (m_qty h na (nI t) r p)) h r).2.1)), (5, .inl (nI r))] [] (c_1 ni t (fun r => m_qty h na (nI t) r p) (fun r => m_cost h (18 * (4 * t + r)) (kr r) (m_qty h na (nI t) r p)) h r).1 0 0 := by
  intro m
  induction m with
  | zero =>
    intro r hr
    have hr : r = 4 := by omega
    subst hr
    refine V_iload 85 dX8_close_83 rfl rfl ?_
    refine V_iconst (v := 4) 86 dX8_close_85 rfl (by decide) ?_
    refine V_icmp_ge 176 89 dX8_close_86 rfl rfl (fun c_86 => ?_) (fun c_86 => ?_)
    · skip
      exact V_at K ⟨rfl, rfl, rfl, rfl, trivial⟩
    · skip
      exact absurd (by decide) c_86
  | succ m ih =>
    intro r hr
    obtain ⟨c1, c2⟩ := c1_fr (q := fun r => m_qty h na (nI t) r p) (c := fun r => m_cost h (18 * (4 * t + r)) (kr r) (m_qty h na (nI t) r p)) (t := t) h0 r (by omega)
    have ih := ih (r + 1) (by omega)
    unfold c_1 at ih
    generalize c_1 ni t (fun r => m_qty h na (nI t) r p) (fun r => m_cost h (18 * (4 * t + r)) (kr r) (m_qty h na (nI t) r p)) h r = G at c1 c2 ih ⊢
    have c3 := c1.cpy (sp := 18 * (4 * t + r)) (dp := 18 * (24 + 4 * ni + r)) (n := 18) (by omega)
    have hSg := c1.shr hS
    have hSc := c3.shr hS
    have hl := c1.2.2.1
    have eN : qg_i G.1 33 0 27 = nI ni := by rw [c1.2.2.2.1 33 0 27 (by decide) (by decide)]; exact e27
    have eq1 : m_qty (qs_c G.1 46 0 (18 * (4 * t + r)) (18 * (24 + 4 * ni + r)) 18) na (nI t) r p = m_qty h na (nI t) r p := m_qty_congr (fun a _ => c3.2.2.2.1 34 0 a (by decide) (by decide)) (fun k => c3.2.2.2.2 37 0 k (by decide) (by decide) (by decide) (Or.inl (by decide)))
    have e46 : ∀ k, k < 432 → qg_l (qs_c G.1 46 0 (18 * (4 * t + r)) (18 * (24 + 4 * ni + r)) 18) 46 0 k = qg_l h 46 0 k := fun k hk => c3.2.2.2.2 46 0 k (by decide) (by decide) (by decide) (Or.inr hk)
    have eq2 : ∀ n, m_cost (qs_c G.1 46 0 (18 * (4 * t + r)) (18 * (24 + 4 * ni + r)) 18) (18 * (4 * t + r)) (kr r) n = m_cost h (18 * (4 * t + r)) (kr r) n := fun n => m_cost_rows (hk r (by omega)).1 (fun k hk => e46 k (by omega))
    obtain ⟨k1, k2, k3⟩ := hk r (by omega)
    refine V_iload 85 dX8_close_83 rfl rfl ?_
    refine V_iconst (v := 4) 86 dX8_close_85 rfl (by decide) ?_
    refine V_icmp_ge 176 89 dX8_close_86 rfl rfl (fun c_86 => ?_) (fun c_86 => ?_)
    · skip
      exact absurd c_86 (nI_ge (b := 4) (by omega) (by omega))
    · skip
      refine V_aload_n 90 dX8_close_89 rfl rfl ?_
      refine V_getR 93 8 16 fl_X8_131 dX8_close_90 rfl rfl (by decide) (Or.inr ⟨_, rfl⟩) (by decide) (sr_16 hSg) ?_
      refine V_iload_n 94 dX8_close_93 rfl rfl ?_
      refine V_iload 96 dX8_close_94 rfl rfl ?_
      refine V_cS2i 99 (ct_X8_row _ _ _) cs_X8_174 dX8_close_96 rfl ⟨Nat.le_of_ble_eq_true rfl, Nat.le_of_ble_eq_true rfl⟩ (Nat.le_of_ble_eq_true rfl) ⟨Nat.le_of_ble_eq_true rfl, Nat.le_of_ble_eq_true rfl⟩ (fun x h' hx hle => ?_)
      obtain ⟨rfl, rfl⟩ := hx
      refine V_aload_n 100 dX8_close_99 rfl rfl ?_
      refine V_getR 103 8 16 fl_X8_131 dX8_close_100 rfl rfl (by decide) (Or.inr ⟨_, rfl⟩) (by decide) (sr_16 hSg) ?_
      refine V_bipush (v := 18) 105 dX8_close_103 rfl (by decide) ?_
      refine V_bipush (v := 24) 107 dX8_close_105 rfl (by decide) ?_
      refine V_iconst (v := 4) 108 dX8_close_107 rfl (by decide) ?_
      refine V_aload_n 109 dX8_close_108 rfl rfl ?_
      refine V_getiV 112 8 27 fl_X8_206 dX8_close_109 rfl rfl (by decide) rfl (by decide) eN ?_
      refine V_imul 113 dX8_close_112 rfl ?_
      refine V_iadd 114 dX8_close_113 rfl ?_
      refine V_iload 116 dX8_close_114 rfl rfl ?_
      refine V_iadd 117 dX8_close_116 rfl ?_
      refine V_imul 118 dX8_close_117 rfl ?_
      refine V_bipush (v := 18) 120 dX8_close_118 rfl (by decide) ?_
      refine V_copyl 123 (18 * (4 * t + r)) (18 * (24 + 4 * ni + r)) (18) dX8_close_120 rfl rfl (by decide) ml_X8_209 nw_ac sm_arraycopyName wi_J10 rfl (by rw [show (18 : Int32) = nI 18 from rfl, show (24 : Int32) = nI 24 from rfl, show (4 : Int32) = nI 4 from rfl, pk_mul, nI_add, nI_add, pk_mul]) rfl (show _ ≤ 4752 by omega) (show _ ≤ 4752 by omega) (by decide) (by decide) (Nat.le_of_ble_eq_true rfl) ?_
      refine V_aload_n 124 dX8_close_123 rfl rfl ?_
      refine V_iload_n 125 dX8_close_124 rfl rfl ?_
      refine V_iload 127 dX8_close_125 rfl rfl ?_
      refine V_iload_n 128 dX8_close_127 rfl rfl ?_
      refine V_cV3l 131 (ct_X8_quantity hSc (by rw [c3.2.2.2.1 33 0 1 (by decide) (by decide)]; exact ea) hna (by omega) hp) cs_X8_193 rfl rfl (by decide) dX8_close_128 rfl ⟨Nat.le_of_ble_eq_true rfl, Nat.le_of_ble_eq_true rfl⟩ (Nat.le_of_ble_eq_true rfl) ⟨Nat.le_of_ble_eq_true rfl, Nat.le_of_ble_eq_true rfl⟩ (fun x h' hx hle => ?_)
      obtain ⟨rfl, rfl⟩ := hx
      rw [eq1]
      refine V_lstore 133 dX8_close_131 rfl (by decide) ?_
      refine V_lload 135 dX8_close_133 rfl rfl ?_
      refine V_lconst (v := 0) 136 dX8_close_135 rfl (by decide) ?_
      refine V_lcmp 137 dX8_close_136 rfl ?_
      refine V_if_le 170 140 dX8_close_137 rfl rfl (fun c_137 => ?_) (fun c_137 => ?_)
      · (rw [lg_le] at c_137)
        rw [if_neg (by grind)] at ih
        refine V_iincN 173 dX8_close_170 rfl rfl (by decide) ?_
        refine V_goto 83 dX8_close_173 rfl ?_
        exact V_at ih ⟨rfl, rfl, rfl, rfl, rfl, trivial⟩
      · (rw [lg_le] at c_137)
        rw [if_pos (by grind)] at ih
        refine V_aload_n 141 dX8_close_140 rfl rfl ?_
        refine V_iload_n 142 dX8_close_141 rfl rfl ?_
        refine V_iload 144 dX8_close_142 rfl rfl ?_
        refine V_cS2i 147 (ct_X8_row _ _ _) cs_X8_174 dX8_close_144 rfl ⟨Nat.le_of_ble_eq_true rfl, Nat.le_of_ble_eq_true rfl⟩ (Nat.le_of_ble_eq_true rfl) ⟨Nat.le_of_ble_eq_true rfl, Nat.le_of_ble_eq_true rfl⟩ (fun x h' hx hle => ?_)
        obtain ⟨rfl, rfl⟩ := hx
        refine V_lload 149 dX8_close_147 rfl rfl ?_
        refine V_cV2l 152 (ct_X8_costOf (k := kr r) hSc (by omega) k1 (by rw [e46 _ (by omega)]; exact k2) (by rw [e46 _ (by omega)]; exact k3)) cs_X8_179 rfl rfl (by decide) dX8_close_149 rfl ⟨Nat.le_of_ble_eq_true rfl, Nat.le_of_ble_eq_true rfl⟩ (Nat.le_of_ble_eq_true rfl) ⟨Nat.le_of_ble_eq_true rfl, Nat.le_of_ble_eq_true rfl⟩ (fun x h' hx hle => ?_)
        obtain ⟨rfl, rfl⟩ := hx
        rw [eq2]
        refine V_lstore 154 dX8_close_152 rfl (by decide) ?_
        refine V_aload_n 155 dX8_close_154 rfl rfl ?_
        refine V_iconst (v := 0) 156 dX8_close_155 rfl (by decide) ?_
        refine V_iload 158 dX8_close_156 rfl rfl ?_
        refine V_lload 160 dX8_close_158 rfl rfl ?_
        refine V_lload 162 dX8_close_160 rfl rfl ?_
        refine V_cV4v 165 (ct_X8_line hSc (by rw [c3.2.2.2.1 33 0 27 (by decide) (by decide)]; exact e27) hni c3.2.1 (by show G.2.2 < 60; omega)) cs_X8_215 rfl rfl (by decide) dX8_close_162 rfl ⟨Nat.le_of_ble_eq_true rfl, Nat.le_of_ble_eq_true rfl⟩ (Nat.le_of_ble_eq_true rfl) ⟨Nat.le_of_ble_eq_true rfl, Nat.le_of_ble_eq_true rfl⟩ (fun h' hx hle => ?_)
        obtain rfl := hx
        refine V_lload_n 166 dX8_close_165 rfl rfl ?_
        refine V_lload 168 dX8_close_166 rfl rfl ?_
        refine V_ladd 169 dX8_close_168 rfl ?_
        refine V_lstore_n 170 dX8_close_169 rfl (by decide) ?_
        refine V_iincN 173 dX8_close_170 rfl rfl (by decide) ?_
        refine V_goto 83 dX8_close_173 rfl ?_
        exact V_at ih ⟨rfl, rfl, rfl, rfl, rfl, trivial⟩
def c_A (h : qH) (ni t p : Nat) : qH := qs_i (qs_i (qs_i h 57 0 ni (nI t)) 58 0 ni (nI p)) 59 0 ni 0
def m_close (h : qH) (ni t p na nc f : Nat) (kr : Nat → Nat) : qH := c_7 (c_A h ni t p) ni t p nc f (c_5 (c_A h ni t p) ni t (c_4 (c_A h ni t p) ni t (c_3 (c_A h ni t p) ni t (c_2 (c_A h ni t p) ni t (c_1 ni t (fun r => m_qty (c_A h ni t p) na (nI t) r p) (fun r => m_cost (c_A h ni t p) (18 * (4 * t + r)) (kr r) (m_qty (c_A h ni t p) na (nI t) r p)) (c_A h ni t p) 4) 4))))
theorem ct_X8_close_ok {ni t p na nc f : Nat} {kr : Nat → Nat} (hS : SHR h) (ht : t < 6) (hni : ni < 60) (hp : p < 100) (hnc : nc ≤ 40) (e27 : qg_i h 33 0 27 = nI ni) (ea : qg_i h 33 0 1 = nI na) (hna : na ≤ 24) (ec : qg_i h 50 0 t = nI nc) (ep : qg_i h 53 0 t = nI p) (hcp : cpn (m_cl h t) (m_cf h t) (nI p) nc ≤ f) (hf : f ≤ 40) (hk : WP h t kr) (hnow : 1000 * nI p + 999 < qg_i h 33 0 0) : qM yX8_close cX8_close 10 ((some .int)) 2 62 0 0 [.inr (.inr (some (33, 0))), .inl (nI t)] h (pI fun x h' => x = nI ni ∧ h' = m_close h ni t p na nc f kr) := by
  have h0 : qg_i (c_A h ni t p) 59 0 ni = nI 0 := by simp [c_A, qii]; rfl
  refine qM.of (plainFor_of_name (by decide)) (Nat.le_of_ble_eq_true rfl) ?_
  refine V_iload_n 1 dX8_close_0 rfl rfl ?_
  refine V_cS1i 4 (ct_isTen_ok ht) cs_X8_7 dX8_close_1 rfl ⟨Nat.le_of_ble_eq_true rfl, Nat.le_of_ble_eq_true rfl⟩ (Nat.le_of_ble_eq_true rfl) ⟨Nat.le_of_ble_eq_true rfl, Nat.le_of_ble_eq_true rfl⟩ (fun x h' hx hle => ?_)
  obtain ⟨rfl, rfl⟩ := hx
  refine V_if_ne 10 7 dX8_close_4 rfl rfl (fun c_4 => ?_) (fun c_4 => ?_)
  · skip
    refine V_aload_n 11 dX8_close_10 rfl rfl ?_
    refine V_getR 14 8 23 fl_X8_49 dX8_close_11 rfl rfl (by decide) (Or.inr ⟨_, rfl⟩) (by decide) (sr_23 hS) ?_
    refine V_iload_n 15 dX8_close_14 rfl rfl ?_
    refine V_ialdV 16 (_) dX8_close_15 rfl rfl (by decide) rfl (show _ < 6 by omega) (by decide) ep ?_
    refine V_istore_n 17 dX8_close_16 rfl (by decide) ?_
    refine V_aload_n 18 dX8_close_17 rfl rfl ?_
    refine V_geti 21 8 0 fl_X8_24 dX8_close_18 rfl rfl (by decide) rfl (by decide) ?_
    refine V_sipush (v := 1000) 24 dX8_close_21 rfl (by decide) ?_
    refine V_iload_n 25 dX8_close_24 rfl rfl ?_
    refine V_imul 26 dX8_close_25 rfl ?_
    refine V_sipush (v := 999) 29 dX8_close_26 rfl (by decide) ?_
    refine V_iadd 30 dX8_close_29 rfl ?_
    refine V_icmp_gt 36 33 dX8_close_30 rfl rfl (fun c_30 => ?_) (fun c_30 => ?_)
    · skip
      refine V_aload_n 37 dX8_close_36 rfl rfl ?_
      refine V_getiV 40 8 27 fl_X8_206 dX8_close_37 rfl rfl (by decide) rfl (by decide) e27 ?_
      refine V_bipush (v := 60) 42 dX8_close_40 rfl (by decide) ?_
      refine V_icmp_ne 48 45 dX8_close_42 rfl rfl (fun c_42 => ?_) (fun c_42 => ?_)
      · skip
        refine V_aload_n 49 dX8_close_48 rfl rfl ?_
        refine V_getR 52 8 28 fl_X8_161 dX8_close_49 rfl rfl (by decide) (Or.inr ⟨_, rfl⟩) (by decide) (sr_28 hS) ?_
        refine V_aload_n 53 dX8_close_52 rfl rfl ?_
        refine V_getiV 56 8 27 fl_X8_206 dX8_close_53 rfl rfl (by decide) rfl (by decide) e27 ?_
        refine V_iload_n 57 dX8_close_56 rfl rfl ?_
        refine V_iastN 58 (_) dX8_close_57 rfl rfl (by decide) rfl (show _ < 60 by omega) (by decide) ?_
        refine V_aload_n 59 dX8_close_58 rfl rfl ?_
        refine V_getR 62 8 29 fl_X8_164 dX8_close_59 rfl rfl (by decide) (Or.inr ⟨_, rfl⟩) (by decide) (sr_29 hS) ?_
        refine V_aload_n 63 dX8_close_62 rfl rfl ?_
        refine V_getiV 66 8 27 fl_X8_206 dX8_close_63 rfl rfl (by decide) rfl (by decide) e27 ?_
        refine V_iload_n 67 dX8_close_66 rfl rfl ?_
        refine V_iastN 68 (_) dX8_close_67 rfl rfl (by decide) rfl (show _ < 60 by omega) (by decide) ?_
        refine V_aload_n 69 dX8_close_68 rfl rfl ?_
        refine V_getR 72 8 30 fl_X8_167 dX8_close_69 rfl rfl (by decide) (Or.inr ⟨_, rfl⟩) (by decide) (sr_30 hS) ?_
        refine V_aload_n 73 dX8_close_72 rfl rfl ?_
        refine V_getiV 76 8 27 fl_X8_206 dX8_close_73 rfl rfl (by decide) rfl (by decide) e27 ?_
        refine V_iconst (v := 0) 77 dX8_close_76 rfl (by decide) ?_
        refine V_iastN 78 (_) dX8_close_77 rfl rfl (by decide) rfl (show _ < 60 by omega) (by decide) ?_
        refine V_lconst (v := 0) 79 dX8_close_78 rfl (by decide) ?_
        refine V_lstore_n 80 dX8_close_79 rfl (by decide) ?_
        refine V_iconst (v := 0) 81 dX8_close_80 rfl (by decide) ?_
        refine V_istore 83 dX8_close_81 rfl (by decide) ?_
        obtain ⟨d1, d2⟩ := c1_fr (h := c_A h' ni t p) (q := fun r => m_qty (c_A h' ni t p) na (nI t) r p) (c := fun r => m_cost (c_A h' ni t p) (18 * (4 * t + r)) (kr r) (m_qty (c_A h' ni t p) na (nI t) r p)) (t := t) h0 4 (Nat.le_refl _)
        obtain ⟨d3, d4⟩ := c2_fr d1 d2 4 (Nat.le_refl _)
        refine V_at (lp_X8_cl1 (h := c_A h' ni t p) (kr := kr) hS ht hni hp e27 ea hna h0 hk ?_ 4 0 (by omega)) ⟨rfl, rfl, rfl, rfl, rfl, trivial⟩
        refine V_iconst (v := 0) 177 dX8_close_176 rfl (by decide) ?_
        refine V_istore 179 dX8_close_177 rfl (by decide) ?_
        exact V_at (lp_X8_cl2 (h := c_A h' ni t p) hS ht hni e27 d1 (Nat.le_refl _) d2 (cl_264 (h := c_A h' ni t p) (nc := nc) (f := f) hS ht hni hp hnc e27 ec ep hcp hf d3 ⟨_, rfl, rfl, rfl⟩) 4 0 (by omega)) ⟨rfl, rfl, rfl, rfl, rfl, trivial⟩
      · skip
        exact absurd (show nI ni = nI 60 from c_42) (fun q => by have := (nI_eq (by omega) (by omega)).mp q; omega)
    · skip
      exact absurd hnow c_30
  · skip
    exact absurd c_4 (by decide)
theorem ct_X8_close_early {t p : Nat} (hS : SHR h) (ht : t < 6) (ep : qg_i h 53 0 t = nI p) (hnow : ¬ 1000 * nI p + 999 < qg_i h 33 0 0) : qM yX8_close cX8_close 10 ((some .int)) 2 62 0 0 [.inr (.inr (some (33, 0))), .inl (nI t)] h (pI fun x h' => x = -4 ∧ h' = h) := by
  refine qM.of (plainFor_of_name (by decide)) (Nat.le_of_ble_eq_true rfl) ?_
  refine V_iload_n 1 dX8_close_0 rfl rfl ?_
  refine V_cS1i 4 (ct_isTen_ok ht) cs_X8_7 dX8_close_1 rfl ⟨Nat.le_of_ble_eq_true rfl, Nat.le_of_ble_eq_true rfl⟩ (Nat.le_of_ble_eq_true rfl) ⟨Nat.le_of_ble_eq_true rfl, Nat.le_of_ble_eq_true rfl⟩ (fun x h' hx hle => ?_)
  obtain ⟨rfl, rfl⟩ := hx
  refine V_if_ne 10 7 dX8_close_4 rfl rfl (fun c_4 => ?_) (fun c_4 => ?_)
  · skip
    refine V_aload_n 11 dX8_close_10 rfl rfl ?_
    refine V_getR 14 8 23 fl_X8_49 dX8_close_11 rfl rfl (by decide) (Or.inr ⟨_, rfl⟩) (by decide) (sr_23 hS) ?_
    refine V_iload_n 15 dX8_close_14 rfl rfl ?_
    refine V_ialdV 16 (_) dX8_close_15 rfl rfl (by decide) rfl (show _ < 6 by omega) (by decide) ep ?_
    refine V_istore_n 17 dX8_close_16 rfl (by decide) ?_
    refine V_aload_n 18 dX8_close_17 rfl rfl ?_
    refine V_geti 21 8 0 fl_X8_24 dX8_close_18 rfl rfl (by decide) rfl (by decide) ?_
    refine V_sipush (v := 1000) 24 dX8_close_21 rfl (by decide) ?_
    refine V_iload_n 25 dX8_close_24 rfl rfl ?_
    refine V_imul 26 dX8_close_25 rfl ?_
    refine V_sipush (v := 999) 29 dX8_close_26 rfl (by decide) ?_
    refine V_iadd 30 dX8_close_29 rfl ?_
    refine V_icmp_gt 36 33 dX8_close_30 rfl rfl (fun c_30 => ?_) (fun c_30 => ?_)
    · skip
      exact absurd c_30 hnow
    · skip
      refine V_bipush (v := (-4)) 35 dX8_close_33 rfl (by decide) ?_
      refine V_iret dX8_close_35 rfl rfl ⟨_, rfl, ?_⟩ (by first | exact Nat.le_refl _ | decide | omega) (by first | exact Nat.le_refl _ | decide | omega)
      exact ⟨rfl, rfl⟩
  · skip
    exact absurd c_4 (by decide)
theorem ct_X8_close_full {t p : Nat} (hS : SHR h) (ht : t < 6) (ep : qg_i h 53 0 t = nI p) (hnow : 1000 * nI p + 999 < qg_i h 33 0 0) (e27 : qg_i h 33 0 27 = nI 60) : qM yX8_close cX8_close 10 ((some .int)) 2 62 0 0 [.inr (.inr (some (33, 0))), .inl (nI t)] h (pI fun x h' => x = -3 ∧ h' = h) := by
  refine qM.of (plainFor_of_name (by decide)) (Nat.le_of_ble_eq_true rfl) ?_
  refine V_iload_n 1 dX8_close_0 rfl rfl ?_
  refine V_cS1i 4 (ct_isTen_ok ht) cs_X8_7 dX8_close_1 rfl ⟨Nat.le_of_ble_eq_true rfl, Nat.le_of_ble_eq_true rfl⟩ (Nat.le_of_ble_eq_true rfl) ⟨Nat.le_of_ble_eq_true rfl, Nat.le_of_ble_eq_true rfl⟩ (fun x h' hx hle => ?_)
  obtain ⟨rfl, rfl⟩ := hx
  refine V_if_ne 10 7 dX8_close_4 rfl rfl (fun c_4 => ?_) (fun c_4 => ?_)
  · skip
    refine V_aload_n 11 dX8_close_10 rfl rfl ?_
    refine V_getR 14 8 23 fl_X8_49 dX8_close_11 rfl rfl (by decide) (Or.inr ⟨_, rfl⟩) (by decide) (sr_23 hS) ?_
    refine V_iload_n 15 dX8_close_14 rfl rfl ?_
    refine V_ialdV 16 (_) dX8_close_15 rfl rfl (by decide) rfl (show _ < 6 by omega) (by decide) ep ?_
    refine V_istore_n 17 dX8_close_16 rfl (by decide) ?_
    refine V_aload_n 18 dX8_close_17 rfl rfl ?_
    refine V_geti 21 8 0 fl_X8_24 dX8_close_18 rfl rfl (by decide) rfl (by decide) ?_
    refine V_sipush (v := 1000) 24 dX8_close_21 rfl (by decide) ?_
    refine V_iload_n 25 dX8_close_24 rfl rfl ?_
    refine V_imul 26 dX8_close_25 rfl ?_
    refine V_sipush (v := 999) 29 dX8_close_26 rfl (by decide) ?_
    refine V_iadd 30 dX8_close_29 rfl ?_
    refine V_icmp_gt 36 33 dX8_close_30 rfl rfl (fun c_30 => ?_) (fun c_30 => ?_)
    · skip
      refine V_aload_n 37 dX8_close_36 rfl rfl ?_
      refine V_getiV 40 8 27 fl_X8_206 dX8_close_37 rfl rfl (by decide) rfl (by decide) e27 ?_
      refine V_bipush (v := 60) 42 dX8_close_40 rfl (by decide) ?_
      refine V_icmp_ne 48 45 dX8_close_42 rfl rfl (fun c_42 => ?_) (fun c_42 => ?_)
      · skip
        exact absurd rfl c_42
      · skip
        refine V_bipush (v := (-3)) 47 dX8_close_45 rfl (by decide) ?_
        refine V_iret dX8_close_47 rfl rfl ⟨_, rfl, ?_⟩ (by first | exact Nat.le_refl _ | decide | omega) (by first | exact Nat.le_refl _ | decide | omega)
        exact ⟨rfl, rfl⟩
    · skip
      exact absurd hnow c_30
  · skip
    exact absurd c_4 (by decide)
theorem ct_X8_close_bad {t : Int32} (hbad : ¬ (0 ≤ t ∧ t < 6)) : qM yX8_close cX8_close 10 ((some .int)) 2 62 0 0 [.inr (.inr (some (33, 0))), .inl t] h (pI fun x h' => x = -2 ∧ h' = h) := by
  refine qM.of (plainFor_of_name (by decide)) (Nat.le_of_ble_eq_true rfl) ?_
  refine V_iload_n 1 dX8_close_0 rfl rfl ?_
  refine V_cS1i 4 (ct_X8_isTenant _ _) cs_X8_7 dX8_close_1 rfl ⟨Nat.le_of_ble_eq_true rfl, Nat.le_of_ble_eq_true rfl⟩ (Nat.le_of_ble_eq_true rfl) ⟨Nat.le_of_ble_eq_true rfl, Nat.le_of_ble_eq_true rfl⟩ (fun x h' hx hle => ?_)
  obtain ⟨rfl, rfl⟩ := hx
  refine V_if_ne 10 7 dX8_close_4 rfl rfl (fun c_4 => ?_) (fun c_4 => ?_)
  · skip
    exfalso; grind
  · skip
    refine V_bipush (v := (-2)) 9 dX8_close_7 rfl (by decide) ?_
    refine V_iret dX8_close_9 rfl rfl ⟨_, rfl, ?_⟩ (by first | exact Nat.le_refl _ | decide | omega) (by first | exact Nat.le_refl _ | decide | omega)
    exact ⟨rfl, rfl⟩
end RN
