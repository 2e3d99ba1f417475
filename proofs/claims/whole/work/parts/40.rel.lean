/-! The relation of the two: what each part says -/
def nL (n : Nat) : Int64 := Int64.ofNat n
def sm_n (f : Nat → Nat) : Nat → Nat
  | 0 => 0
  | n + 1 => sm_n f n + f n
def SC (h : qH) (M NA NH NI : Nat) : Prop := (M ≤ 99999 ∧ NA ≤ 24 ∧ NH ≤ 200 ∧ NI ≤ 60) ∧ (qg_i h 1 0 5 = nI M ∧ qg_i h 1 0 6 = nI NA ∧ qg_i h 1 0 7 = nI NH ∧ qg_i h 1 0 9 = nI NI) ∧ (qg_i h 33 0 0 = nI M ∧ qg_i h 33 0 1 = nI NA ∧ qg_i h 33 0 10 = nI NH ∧ qg_i h 33 0 27 = nI NI)
def SN (h : qH) (NA NH NI : Nat) : Prop := (qg_n h 22 = NA ∧ qg_n h 23 = NA ∧ qg_n h 24 = 4 * NA ∧ qg_n h 25 = NA ∧ qg_n h 26 = NA) ∧ qg_n h 27 = NH ∧ (qg_n h 28 = NI ∧ qg_n h 29 = NI ∧ qg_n h 30 = NI ∧ qg_n h 31 = NI ∧ qg_n h 32 = NI)
def BA (h : qH) (NA : Nat) : Prop := WO h NA ∧ WW h NA ∧ ∀ a, a < NA → qg_i h 22 a 0 = nI a ∧ qg_i h 34 0 a = nI (ow h a) ∧ qg_i h 35 0 a = par h a ∧ ∀ o, qg_r h 22 a 2 = some (22, o) → ow h o = ow h a
def BL (h : qH) (NA : Nat) : Prop := ∀ a, a < NA → ∀ r, r < 4 → qg_i h 26 a r = qg_i h 36 0 (4 * a + r)
def BU (h : qH) (NA : Nat) : Prop := ∀ a, a < NA → ∀ r, r < 4 → ∀ p, p < 100 → qg_l h 24 (4 * a + r) p = m_used h NA a r p
def BS (h : qH) (NA c : Nat) : Prop := ∀ r, r < 4 → ∀ p, p < 100 → ∃ s : Nat → Nat, (∀ a, a < 24 → qg_l h 37 0 ((4 * a + r) * 100 + p) = nL (s a)) ∧ (∀ a, NA ≤ a → s a = 0) ∧ sm_n s 24 ≤ c * 1000000
def BH1 (h : qH) (M NA NH : Nat) : Prop := WHC h NA NH ∧ ∀ j, j < NH → qg_i h 41 0 j = nI (hu_ h j) ∧ qg_i h 42 0 j = qg_i h 27 j 1 ∧ qg_i h 43 0 j = qg_i h 27 j 2 ∧ qg_i h 44 0 j = qg_i h 27 j 3 ∧ (1 ≤ qg_i h 43 0 j ∧ qg_i h 43 0 j ≤ 1000000) ∧ (∃ m, m ≤ M ∧ qg_i h 44 0 j = nI m) ∧ (¬ qg_i h 27 j 4 = 0 ↔ m_open h j = true)
def oC (h : qH) (j : Nat) : Int32 := if qg_i h 27 j 4 = 0 then 0 else 1
def hC (h : qH) (b r j : Nat) : Int32 := if ¬ qg_i h 27 j 4 = 0 ∧ hr_ h j = r ∧ ly (par h) (hu_ h j) b = true then qg_i h 27 j 2 else 0
def BH2 (h : qH) (NH : Nat) : Prop := qg_i h 1 0 8 = sm_i (oC h) NH ∧ ∃ k, k ≤ 40 ∧ sm_i (oC h) NH = nI k
def BH3 (h : qH) (NA NH : Nat) : Prop := ∀ b, b < NA → ∀ r, r < 4 → qg_i h 25 b r = sm_i (hC h b r) NH
def alv (M : Nat) (e : Int64 × Int32 × Int32) : Bool := decide (nI M < e.2.2 + 1000)
def BK (h : qH) (M : Nat) : Prop := ∃ nc nk, (qg_i h 6 0 3 = nI nc ∧ nc ≤ 300) ∧ (qg_i h 33 0 6 = nI nk ∧ nk ≤ 300) ∧ kl h 7 8 9 nc = (kl h 38 39 40 nk).filter (alv M) ∧ ∀ e ∈ kl h 38 39 40 nk, ∃ m, m ≤ M ∧ e.2.2 = nI m
def PB (h : qH) (q : Nat) : Prop := (∃ k, k < 5 ∧ qg_i h 18 q 3 = nI (k + 1)) ∧ (1 ≤ qg_i h 18 q 5 ∧ qg_i h 18 q 5 ≤ 100000) ∧ (0 ≤ qg_i h 18 q 4 ∧ qg_i h 18 q 4 ≤ 2) ∧ 1 ≤ qg_l h 19 q 0 ∧ ∀ j, j < 5 → (0 ≤ qg_l h 19 q j ∧ qg_l h 19 q j ≤ 10000000000) ∧ (0 ≤ qg_i h 20 q j ∧ qg_i h 20 q j ≤ 1000000) ∧ (0 ≤ qg_i h 21 q j ∧ qg_i h 21 q j ≤ 1000000000)
def PR (h : qH) (p q : Nat) : Prop := (qg_l h 46 0 p = (qg_i h 18 q 4).toInt64 ∧ qg_l h 46 0 (p + 1) = (qg_i h 18 q 5).toInt64 ∧ qg_l h 46 0 (p + 2) = (qg_i h 18 q 3).toInt64) ∧ (∀ j, j < 5 → qg_l h 46 0 (p + 3 + 3 * j) = qg_l h 19 q j ∧ qg_l h 46 0 (p + 4 + 3 * j) = (qg_i h 20 q j).toInt64 ∧ qg_l h 46 0 (p + 5 + 3 * j) = (qg_i h 21 q j).toInt64) ∧ PB h q
def BP (h : qH) : Prop := ∀ t, t < 6 → ∀ r, r < 4 → PR h (18 * (4 * t + r)) (8 * t + 2 * r)
def BT (h : qH) : Prop := ∀ t, t < 6 → (qg_i h 10 t 7 = qg_i h 47 0 t ∧ qg_l h 10 t 8 = qg_l h 48 0 t ∧ qg_i h 10 t 9 = qg_i h 49 0 t) ∧ (0 ≤ qg_i h 47 0 t ∧ qg_i h 47 0 t ≤ 10000) ∧ (0 ≤ qg_l h 48 0 t ∧ qg_l h 48 0 t ≤ 1000000000000)
def CB : Nat := 5200000000000000
def BZ (h : qH) (M c : Nat) : Prop := ∀ t, t < 6 → (∃ p, 1000 * p ≤ M ∧ qg_i h 10 t 6 = nI p ∧ qg_i h 53 0 t = nI p) ∧ (∀ r, r < 4 → qg_l h 13 t r = qg_l h 54 0 (4 * t + r) ∧ qg_l h 14 t r = qg_l h 55 0 (4 * t + r) ∧ (qg_i h 56 0 (4 * t + r) = 0 ↔ ¬ 0 < qg_l h 13 t r) ∧ (¬ 0 < qg_l h 13 t r → qg_l h 14 t r = 0)) ∧ ∃ u b : Nat → Nat, (∀ r, r < 4 → qg_l h 13 t r = nL (u r) ∧ u r ≤ c * 1000000 ∧ -(b r : Int) ≤ (qg_l h 14 t r).toInt ∧ (qg_l h 14 t r).toInt ≤ b r) ∧ b 0 + b 1 + b 2 + b 3 ≤ c * CB
def BY (h : qH) (NI : Nat) : Prop := ∀ t, t < 6 → ∀ p, p < 100 → qg_i h 53 0 t = nI p → (0 < p → ∃ i0, i0 < NI ∧ (qg_i h 57 0 i0 = nI t ∧ qg_i h 58 0 i0 = nI (p - 1)) ∧ (∀ i, i < i0 → ¬ (qg_i h 57 0 i = nI t ∧ qg_i h 58 0 i = nI (p - 1))) ∧ ∀ r, r < 4 → PR h (18 * (24 + 4 * i0 + r)) (8 * t + 2 * r + 1)) ∧ ∀ i, i < NI → qg_i h 57 0 i = nI t → ∃ q, q < p ∧ qg_i h 58 0 i = nI q
def BC (h : qH) : Prop := ∀ t, t < 6 → ∃ nc, nc ≤ 40 ∧ (qg_i h 15 t 2 = nI nc ∧ qg_i h 50 0 t = nI nc) ∧ (∀ k, k < nc → qg_i h 17 t k = qg_i h 52 0 (40 * t + k) ∧ qg_l h 16 t k = m_left h t k) ∧ ∃ s, s ≤ 10 ∧ sm_i (f_some1 h t) nc = nI s
def BI (h : qH) (NI : Nat) : Prop := ∀ i, i < NI → (qg_i h 28 i 0 = qg_i h 57 0 i ∧ qg_i h 28 i 1 = qg_i h 58 0 i) ∧ ∃ lc, lc ≤ 21 ∧ (qg_i h 28 i 6 = nI lc ∧ qg_i h 59 0 i = nI lc) ∧ (∀ k, k < lc → (qg_i h 29 i k).toInt64 = qg_l h 60 0 (4 * (60 * i + k)) ∧ (qg_i h 30 i k).toInt64 = qg_l h 60 0 (4 * (60 * i + k) + 1) ∧ qg_l h 31 i k = qg_l h 60 0 (4 * (60 * i + k) + 2) ∧ qg_l h 32 i k = qg_l h 60 0 (4 * (60 * i + k) + 3)) ∧ qg_l h 28 i 7 = m_isum h i lc

def RD (c : Nat) (h : qH) (M NA NH NI : Nat) : Prop := SC h M NA NH NI ∧ SHR h ∧ SHC h NA NH NI ∧ SN h NA NH NI ∧ WN h ∧ BA h NA ∧ BL h NA ∧ BU h NA ∧ BS h NA c ∧ BH1 h M NA NH ∧ BH2 h NH ∧ BH3 h NA NH ∧ BK h M ∧ BP h ∧ BT h ∧ BZ h M c ∧ BY h NI ∧ BC h ∧ BI h NI
theorem RD.sc {c : Nat} {h : qH} {M NA NH NI : Nat} (R : RD c h M NA NH NI) : SC h M NA NH NI := R.1
theorem RD.sr {c : Nat} {h : qH} {M NA NH NI : Nat} (R : RD c h M NA NH NI) : SHR h := R.2.1
theorem RD.sh {c : Nat} {h : qH} {M NA NH NI : Nat} (R : RD c h M NA NH NI) : SHC h NA NH NI := R.2.2.1
theorem RD.sn {c : Nat} {h : qH} {M NA NH NI : Nat} (R : RD c h M NA NH NI) : SN h NA NH NI := R.2.2.2.1
theorem RD.wn {c : Nat} {h : qH} {M NA NH NI : Nat} (R : RD c h M NA NH NI) : WN h := R.2.2.2.2.1
theorem RD.ba {c : Nat} {h : qH} {M NA NH NI : Nat} (R : RD c h M NA NH NI) : BA h NA := R.2.2.2.2.2.1
theorem RD.bl {c : Nat} {h : qH} {M NA NH NI : Nat} (R : RD c h M NA NH NI) : BL h NA := R.2.2.2.2.2.2.1
theorem RD.bu {c : Nat} {h : qH} {M NA NH NI : Nat} (R : RD c h M NA NH NI) : BU h NA := R.2.2.2.2.2.2.2.1
theorem RD.bs {c : Nat} {h : qH} {M NA NH NI : Nat} (R : RD c h M NA NH NI) : BS h NA c := R.2.2.2.2.2.2.2.2.1
theorem RD.h1 {c : Nat} {h : qH} {M NA NH NI : Nat} (R : RD c h M NA NH NI) : BH1 h M NA NH := R.2.2.2.2.2.2.2.2.2.1
theorem RD.h2 {c : Nat} {h : qH} {M NA NH NI : Nat} (R : RD c h M NA NH NI) : BH2 h NH := R.2.2.2.2.2.2.2.2.2.2.1
theorem RD.h3 {c : Nat} {h : qH} {M NA NH NI : Nat} (R : RD c h M NA NH NI) : BH3 h NA NH := R.2.2.2.2.2.2.2.2.2.2.2.1
theorem RD.bk {c : Nat} {h : qH} {M NA NH NI : Nat} (R : RD c h M NA NH NI) : BK h M := R.2.2.2.2.2.2.2.2.2.2.2.2.1
theorem RD.bp {c : Nat} {h : qH} {M NA NH NI : Nat} (R : RD c h M NA NH NI) : BP h := R.2.2.2.2.2.2.2.2.2.2.2.2.2.1
theorem RD.bt {c : Nat} {h : qH} {M NA NH NI : Nat} (R : RD c h M NA NH NI) : BT h := R.2.2.2.2.2.2.2.2.2.2.2.2.2.2.1
theorem RD.bz {c : Nat} {h : qH} {M NA NH NI : Nat} (R : RD c h M NA NH NI) : BZ h M c := R.2.2.2.2.2.2.2.2.2.2.2.2.2.2.2.1
theorem RD.bY {c : Nat} {h : qH} {M NA NH NI : Nat} (R : RD c h M NA NH NI) : BY h NI := R.2.2.2.2.2.2.2.2.2.2.2.2.2.2.2.2.1
theorem RD.bc {c : Nat} {h : qH} {M NA NH NI : Nat} (R : RD c h M NA NH NI) : BC h := R.2.2.2.2.2.2.2.2.2.2.2.2.2.2.2.2.2.1
theorem RD.bi {c : Nat} {h : qH} {M NA NH NI : Nat} (R : RD c h M NA NH NI) : BI h NI := R.2.2.2.2.2.2.2.2.2.2.2.2.2.2.2.2.2.2
def RC (c : Nat) (h : qH) : Prop := ∃ M NA NH NI, RD c h M NA NH NI
theorem SN.to {h g : qH} {NA NH NI : Nat} (H : SN h NA NH NI) (e0 : qg_n g = qg_n h) : SN g NA NH NI := by
  unfold SN at H ⊢
  rw [e0]
  exact H
theorem BA.to {h g : qH} {NA : Nat} (H : BA h NA) (e0 : qg_i g 22 = qg_i h 22) (e1 : qg_i g 34 = qg_i h 34) (e2 : qg_i g 35 = qg_i h 35) (e3 : qg_r g 22 = qg_r h 22) : BA g NA := by
  unfold BA WO WW ow par at H ⊢
  rw [e0, e1, e2, e3]
  exact H
theorem BL.to {h g : qH} {NA : Nat} (H : BL h NA) (e0 : qg_i g 26 = qg_i h 26) (e1 : qg_i g 36 = qg_i h 36) : BL g NA := by
  unfold BL at H ⊢
  rw [e0, e1]
  exact H
theorem BU.to {h g : qH} {NA : Nat} (H : BU h NA) (e0 : qg_l g 24 = qg_l h 24) (e1 : qg_l g 37 = qg_l h 37) (e2 : qg_i g 35 = qg_i h 35) : BU g NA := by
  unfold BU m_used at H ⊢
  rw [e0, e1, e2]
  exact H
theorem BS.to {h g : qH} {NA c : Nat} (H : BS h NA c) (e0 : qg_l g 37 = qg_l h 37) : BS g NA c := by
  unfold BS at H ⊢
  rw [e0]
  exact H
theorem BH1.to {h g : qH} {M NA NH : Nat} (H : BH1 h M NA NH) (e0 : qg_i g 27 = qg_i h 27) (e1 : qg_i g 41 = qg_i h 41) (e2 : qg_i g 42 = qg_i h 42) (e3 : qg_i g 43 = qg_i h 43) (e4 : qg_i g 44 = qg_i h 44) (e5 : qg_i g 45 = qg_i h 45) (e6 : qg_r g 27 = qg_r h 27) (e7 : qg_i g 33 0 0 = qg_i h 33 0 0) : BH1 g M NA NH := by
  unfold BH1 WHC hu_ hr_ m_open at H ⊢
  rw [e0, e1, e2, e3, e4, e5, e6, e7]
  exact H
theorem BH2.to {h g : qH} {NH : Nat} (H : BH2 h NH) (e0 : qg_i g 1 0 8 = qg_i h 1 0 8) (e1 : qg_i g 27 = qg_i h 27) : BH2 g NH := by
  unfold BH2 oC at H ⊢
  rw [e0, e1]
  exact H
theorem BH3.to {h g : qH} {NA NH : Nat} (H : BH3 h NA NH) (e0 : qg_i g 25 = qg_i h 25) (e1 : qg_i g 27 = qg_i h 27) (e2 : qg_r g 27 = qg_r h 27) (e3 : qg_r g 22 = qg_r h 22) : BH3 g NA NH := by
  unfold BH3 hC hr_ hu_ par at H ⊢
  rw [e0, e1, e2, e3]
  exact H
theorem BK.to {h g : qH} {M : Nat} (H : BK h M) (e0 : qg_i g 6 0 3 = qg_i h 6 0 3) (e1 : qg_i g 33 0 6 = qg_i h 33 0 6) (e2 : qg_l g 7 = qg_l h 7) (e3 : qg_i g 8 = qg_i h 8) (e4 : qg_i g 9 = qg_i h 9) (e5 : qg_l g 38 = qg_l h 38) (e6 : qg_i g 39 = qg_i h 39) (e7 : qg_i g 40 = qg_i h 40) : BK g M := by
  unfold BK kl at H ⊢
  rw [e0, e1, e2, e3, e4, e5, e6, e7]
  exact H
theorem BP.to {h g : qH}  (H : BP h ) (e0 : qg_l g 46 = qg_l h 46) (e1 : qg_i g 18 = qg_i h 18) (e2 : qg_l g 19 = qg_l h 19) (e3 : qg_i g 20 = qg_i h 20) (e4 : qg_i g 21 = qg_i h 21) : BP g  := by
  unfold BP PR PB at H ⊢
  rw [e0, e1, e2, e3, e4]
  exact H
theorem BT.to {h g : qH} (H : BT h) (e1 : ∀ t, qg_i g 10 t 7 = qg_i h 10 t 7) (e2 : ∀ t, qg_l g 10 t 8 = qg_l h 10 t 8) (e3 : ∀ t, qg_i g 10 t 9 = qg_i h 10 t 9) (e4 : qg_i g 47 = qg_i h 47) (e5 : qg_l g 48 = qg_l h 48) (e6 : qg_i g 49 = qg_i h 49) : BT g := by
  intro t ht
  rw [e1, e2, e3, e4, e5, e6]
  exact H t ht
theorem WN.to {h g : qH} (H : WN h) (e1 : ∀ t, qg_i g 10 t 0 = qg_i h 10 t 0) : WN g := fun t ht => (e1 t).trans (H t ht)
theorem BZ.to {h g : qH} {M c : Nat} (H : BZ h M c) (e1 : ∀ t, qg_i g 10 t 6 = qg_i h 10 t 6) (e2 : qg_i g 53 = qg_i h 53) (e3 : qg_i g 56 = qg_i h 56) (e4 : qg_l g 13 = qg_l h 13) (e5 : qg_l g 14 = qg_l h 14) (e6 : qg_l g 54 = qg_l h 54) (e7 : qg_l g 55 = qg_l h 55) : BZ g M c := by
  intro t ht
  rw [e1, e2, e3, e4, e5, e6, e7]
  exact H t ht
theorem BZ.up {h : qH} {M c M' c' : Nat} (H : BZ h M c) (hM : M ≤ M') (hc : c ≤ c') : BZ h M' c' := by
  intro t ht
  obtain ⟨⟨p, p1, p2, p3⟩, q, u, b, w1, w2⟩ := H t ht
  have h1 : c * 1000000 ≤ c' * 1000000 := Nat.mul_le_mul_right _ hc
  have h2 : c * CB ≤ c' * CB := Nat.mul_le_mul_right _ hc
  exact ⟨⟨p, by omega, p2, p3⟩, q, u, b, fun r hr => ⟨(w1 r hr).1, Nat.le_trans (w1 r hr).2.1 h1, (w1 r hr).2.2⟩, Nat.le_trans w2 h2⟩
theorem BS.up {h : qH} {NA c c' : Nat} (H : BS h NA c) (hc : c ≤ c') : BS h NA c' := by
  intro r hr p hp
  obtain ⟨s, s1, s2, s3⟩ := H r hr p hp
  exact ⟨s, s1, s2, Nat.le_trans s3 (Nat.mul_le_mul_right _ hc)⟩
theorem SHR.to {h g : qH} (H : SHR h) (e : qg_r g 33 = qg_r h 33) : SHR g := fun k => by rw [e]; exact H k
theorem BY.to {h g : qH} {NI : Nat} (H : BY h NI) (e0 : qg_i g 53 = qg_i h 53) (e1 : qg_i g 57 = qg_i h 57) (e2 : qg_i g 58 = qg_i h 58) (e3 : qg_l g 46 = qg_l h 46) (e4 : qg_i g 18 = qg_i h 18) (e5 : qg_l g 19 = qg_l h 19) (e6 : qg_i g 20 = qg_i h 20) (e7 : qg_i g 21 = qg_i h 21) : BY g NI := by
  unfold BY PR PB at H ⊢
  rw [e0, e1, e2, e3, e4, e5, e6, e7]
  exact H
theorem BC.to {h g : qH}  (H : BC h ) (e0 : qg_i g 15 = qg_i h 15) (e1 : qg_i g 50 = qg_i h 50) (e2 : qg_i g 17 = qg_i h 17) (e3 : qg_i g 52 = qg_i h 52) (e4 : qg_i g 53 = qg_i h 53) (e5 : qg_l g 16 = qg_l h 16) (e6 : qg_l g 51 = qg_l h 51) : BC g  := by
  unfold BC m_left f_some1 at H ⊢
  rw [e0, e1, e2, e3, e4, e5, e6]
  exact H
theorem BI.to {h g : qH} {NI : Nat} (H : BI h NI) (e0 : qg_i g 28 = qg_i h 28) (e1 : qg_i g 57 = qg_i h 57) (e2 : qg_i g 58 = qg_i h 58) (e3 : qg_i g 59 = qg_i h 59) (e4 : qg_i g 29 = qg_i h 29) (e5 : qg_i g 30 = qg_i h 30) (e6 : qg_l g 28 = qg_l h 28) (e7 : qg_l g 31 = qg_l h 31) (e8 : qg_l g 32 = qg_l h 32) (e9 : qg_l g 60 = qg_l h 60) : BI g NI := by
  unfold BI m_isum at H ⊢
  rw [e0, e1, e2, e3, e4, e5, e6, e7, e8, e9]
  exact H
theorem SC.to {h g : qH} {M NA NH NI : Nat} (H : SC h M NA NH NI) (e1 : ∀ k, k = 5 ∨ k = 6 ∨ k = 7 ∨ k = 9 → qg_i g 1 0 k = qg_i h 1 0 k) (e2 : ∀ k, k = 0 ∨ k = 1 ∨ k = 10 ∨ k = 27 → qg_i g 33 0 k = qg_i h 33 0 k) : SC g M NA NH NI := by
  unfold SC
  rw [e1 5 (by simp), e1 6 (by simp), e1 7 (by simp), e1 9 (by simp), e2 0 (by simp), e2 1 (by simp), e2 10 (by simp), e2 27 (by simp)]
  exact H
theorem SHC.to {h g : qH} {NA NH NI : Nat} (H : SHC h NA NH NI) (e : qg_r g = qg_r h) : SHC g NA NH NI := by
  unfold SHC at H ⊢
  rw [e]
  exact H
theorem RD.up {c c' : Nat} {h : qH} {M NA NH NI : Nat} (R : RD c h M NA NH NI) (hc : c ≤ c') : RD c' h M NA NH NI :=
  ⟨R.sc, R.sr, R.sh, R.sn, R.wn, R.ba, R.bl, R.bu, R.bs.up hc, R.h1, R.h2, R.h3, R.bk, R.bp, R.bt, R.bz.up (Nat.le_refl _) hc, R.bY, R.bc, R.bi⟩
theorem RC.up {c c' : Nat} {h : qH} (R : RC c h) (hc : c ≤ c') : RC c' h := by
  obtain ⟨M, NA, NH, NI, R⟩ := R
  exact ⟨M, NA, NH, NI, R.up hc⟩
theorem nI_div {m : Nat} (h : m < 2 ^ 31) : nI m / 1000 = nI (m / 1000) := by
  apply Int32.toInt_inj.mp
  rw [Int32.toInt_div_of_ne_right _ _ (by decide), nI_toInt h, nI_toInt (by omega)]
  show (m : Int).tdiv 1000 = _
  rw [Int.tdiv_eq_ediv_of_nonneg (by omega)]
  omega
/-! Chains by two tables that agree -/
theorem WI.to {p q : Nat → Int32} {N : Nat} (h : WI p N) (e : ∀ a, a < N → q a = p a) : WI q N := fun a ha => by rw [e a ha]; exact h a ha
theorem ly_ext {p q : Nat → Int32} {N : Nat} (hN : N ≤ 2 ^ 31) (hp : WI p N) (e : ∀ a, a < N → q a = p a) : ∀ a, a < N → ∀ b, ly q a b = ly p a b := by
  intro a
  induction a using Nat.strongRecOn with
  | _ a ih =>
    intro ha b
    have hq := hp.to e
    by_cases hab : a = b
    · subst hab
      rw [ly_self, ly_self]
    · rcases hp a ha with z | ⟨o, ho, z⟩
      · rw [ly_none z hab, ly_none ((e a ha).trans z) hab]
      · rw [ly_some hN hp ha ho z hab, ly_some hN hq ha ho ((e a ha).trans z) hab]
        exact ih o ho (by omega) b
theorem grn_ext {p q l l' : Nat → Int32} {z z' : Nat → Int64} {N : Nat} (hN : N ≤ 2 ^ 31) (hp : WI p N) (e : ∀ a, a < N → q a = p a ∧ l' a = l a ∧ z' a = z a) : ∀ a, a < N → ∀ x, grn q l' z' a a x = grn p l z a a x := by
  intro a
  induction a using Nat.strongRecOn with
  | _ a ih =>
    intro ha x
    have hq := hp.to (fun a ha => (e a ha).1)
    obtain ⟨e1, e2, e3⟩ := e a ha
    rcases hp a ha with y | ⟨o, ho, y⟩
    · rw [grn_none y, grn_none (e1.trans y), e2, e3]
    · rw [grn_some hN hp ha ho y, grn_some hN hq ha ho (e1.trans y), e2, e3]
      exact ih o ho (by omega) _
theorem m_room_grn {h : qH} {na nh p r : Nat} : ∀ n a x, m_room_n h na nh p r n a x = grn (qg_i h 35 0) (fun a => qg_i h 36 0 (4 * a + r)) (fun a => (qg_i h 36 0 (4 * a + r)).toInt64 - m_used h na a r p - (m_held h nh a (nI r)).toInt64) n a x := by
  intro n
  induction n with
  | zero => intro a x; rfl
  | succ n ih =>
    intro a x
    show (if qg_i h 35 0 a = -1 then _ else m_room_n h na nh p r n _ _) = _
    rw [ih]
    rfl
section RR
variable {c M NA NH NI : Nat} {h : qH}
theorem RD.wi (R : RD c h M NA NH NI) : WI (qg_i h 35 0) NA := R.ba.1.wi.to (fun a ha => (R.ba.2.2 a ha).2.2.1)
theorem RD.na (R : RD c h M NA NH NI) : NA ≤ 24 := R.sc.1.2.1
theorem RD.nh (R : RD c h M NA NH NI) : NH ≤ 200 := R.sc.1.2.2.1
theorem RD.ni (R : RD c h M NA NH NI) : NI ≤ 60 := R.sc.1.2.2.2
theorem RD.lyE (R : RD c h M NA NH NI) {a : Nat} (ha : a < NA) (b : Nat) : ly (qg_i h 35 0) a b = ly (par h) a b := ly_ext (by have := R.na; omega) R.ba.1.wi (fun a ha => (R.ba.2.2 a ha).2.2.1) a ha b
theorem RD.wh (R : RD c h M NA NH NI) : WH h NA NH := fun j hj => ⟨hu_ h j, (R.h1.1 j hj).1, (R.h1.2 j hj).1⟩
theorem RD.opn (R : RD c h M NA NH NI) : sm_i (m_open1 h) NH = sm_i (oC h) NH := sm_i_congr (fun j hj => by
  have := (R.h1.2 j hj).2.2.2.2.2.2
  unfold m_open1 oC
  by_cases q : qg_i h 27 j 4 = 0
  · rw [if_pos q, if_neg (fun z => this.mpr z q)]
  · rw [if_neg q, if_pos (this.mp q)])
theorem RD.held (R : RD c h M NA NH NI) {b r : Nat} (hb : b < NA) (hr : r < 4) : m_held h NH b (nI r) = qg_i h 25 b r := by
  rw [R.h3 b hb r hr]
  refine sm_i_congr (fun j hj => ?_)
  obtain ⟨w1, w2, w3, w4⟩ := R.h1.1 j hj
  obtain ⟨q1, q2, q3, q4, q5, q6, q7⟩ := R.h1.2 j hj
  have e1 : (qg_i h 41 0 j).toNatClampNeg = hu_ h j := by rw [q1, nI_clamp (by have := R.na; omega)]
  have e2 : qg_i h 42 0 j = nI r ↔ hr_ h j = r := by
    rw [q2, w4]
    exact nI_eq (by omega) (by omega)
  unfold m_held1 hC
  rw [e1, R.lyE w1, q3]
  by_cases z : qg_i h 27 j 4 = 0
  · have z1 : m_open h j = false := by
      cases ho : m_open h j with
      | false => rfl
      | true => exact absurd z (q7.mpr ho)
    simp [z, z1]
  · have z1 : m_open h j = true := q7.mp z
    simp [z, z1, e2, and_assoc]
theorem RD.room (R : RD c h M NA NH NI) {a r p : Nat} (ha : a < NA) (hr : r < 4) (hp : p < 100) : m_room h NA NH p r a = f_room h r p a := by
  unfold m_room f_room
  rw [m_room_grn]
  refine grn_ext (by have := R.na; omega) R.ba.1.wi (fun b hb => ?_) a ha _
  refine ⟨(R.ba.2.2 b hb).2.2.1, (R.bl b hb r hr).symm, ?_⟩
  unfold f_z
  rw [← R.bu b hb r hr p hp, R.held hb hr, R.bl b hb r hr]
theorem RD.per (R : RD c h M NA NH NI) : ∃ p, p < 100 ∧ qg_i h 1 0 5 / 1000 = nI p ∧ qg_i h 33 0 0 / 1000 = nI p := by
  refine ⟨M / 1000, by have := R.sc.1.1; omega, ?_, ?_⟩
  · rw [R.sc.2.1.1]
    exact nI_div (by have := R.sc.1.1; omega)
  · rw [R.sc.2.2.1]
    exact nI_div (by have := R.sc.1.1; omega)
end RR
