/-- a constraint of the program: kind, how many, row, its numbers, its addresses, its arrays, how many parts -/
abbrev KD : Type := Nat × Nat × Nat × Nat × Nat × Nat × Nat × Nat × Nat × Nat × (Nat → Nat) × (Nat → Nat)
def KD.kd (κ : KD) : Nat := κ.1
def KD.n (κ : KD) : Nat := κ.2.1
def KD.row (κ : KD) : Nat := κ.2.2.1
def KD.a (κ : KD) : Nat := κ.2.2.2.1
def KD.b (κ : KD) : Nat := κ.2.2.2.2.1
def KD.z (κ : KD) : Nat := κ.2.2.2.2.2.1
def KD.m (κ : KD) : Nat := κ.2.2.2.2.2.2.1
def KD.ad (κ : KD) : Nat := κ.2.2.2.2.2.2.2.1
def KD.a1 (κ : KD) : Nat := κ.2.2.2.2.2.2.2.2.1
def KD.a2 (κ : KD) : Nat := κ.2.2.2.2.2.2.2.2.2.1
def KD.f1 (κ : KD) : Nat → Nat := κ.2.2.2.2.2.2.2.2.2.2.1
def KD.f2 (κ : KD) : Nat → Nat := κ.2.2.2.2.2.2.2.2.2.2.2
/-- what its methods ask of it -/
def kok (κ : KD) : Prop := κ.kd ≤ 6 ∧ (1 ≤ κ.n ∧ κ.n ≤ 6) ∧ κ.row < 262144 ∧ (κ.kd = 0 → κ.m ≤ 20 ∧ ∀ j, κ.f1 j < 1048576) ∧ (κ.kd = 1 → κ.a < 64 ∧ κ.b ≤ 1000 ∧ κ.m ≤ 30 ∧ κ.f2 6 = κ.m ∧ (∀ j, κ.f1 j < 8192) ∧ (∀ j, j < 6 → κ.f2 j ≤ κ.f2 (j + 1)) ∧ ∀ j, 7 ≤ j → κ.f2 j = 0) ∧ (2 ≤ κ.kd → okc κ.kd κ.n κ.a κ.b κ.z ∧ κ.m = 0) ∧ (κ.kd = 3 → κ.n % 2 = 0)
/-- what it allows -/
def kal (κ : KD) (al : (Nat → Nat) → Bool) : Prop := (κ.kd = 0 → ∃ T, tabI κ.f1 T κ.m κ.n ∧ ∀ w : Nat → Nat, (∀ j, j < κ.n → w j < 6) → al w = tabA T κ.m κ.n w) ∧ (κ.kd = 1 → stOk (cSt κ.f1 κ.f2) ∧ ∀ w : Nat → Nat, (∀ j, j < κ.n → w j < 6) → (al w = true ↔ macA (cSt κ.f1 κ.f2) κ.a κ.b κ.n w)) ∧ (2 ≤ κ.kd → ∀ w : Nat → Nat, (∀ j, j < κ.n → w j < 6) → al w = acc κ.kd κ.n κ.a κ.b κ.z w)
theorem kal_wk {κ : KD} {al : (Nat → Nat) → Bool} {op kp : Nat → Nat} (h : kal κ al) (h2 : 2 ≤ κ.kd) (h0 : ∀ j, j < κ.n → kp j = 0) : (0 < wcnt op κ.kd κ.n κ.a κ.b κ.z κ.n 0 0 ↔ exW op κ.n al) ∧ keM op κ.n al (kpK kp (kmk op κ.kd κ.n κ.a κ.b κ.z κ.n 0 0)) :=
  ⟨wk_ex.trans (exW_cg (fun w hw => (h.2.2 h2 w hw).symm)), keM_cg (fun w hw => (h.2.2 h2 w hw).symm) (wk_ke h0)⟩
theorem kal_ta {κ : KD} {al : (Nat → Nat) → Bool} {op kp : Nat → Nat} (h : kal κ al) (h2 : κ.kd = 0) (h0 : ∀ j, j < κ.n → kp j = 0) : (¬ otF κ.f1 op κ.m κ.n = 0 ↔ exW op κ.n al) ∧ keM op κ.n al (kT kp κ.f1 op (otF κ.f1 op κ.m κ.n) κ.n 0) := by
  obtain ⟨T, hI, hT⟩ := h.1 h2
  exact ⟨(tab_ex hI).trans (exW_cg (fun w hw => (hT w hw).symm)), keM_cg (fun w hw => (hT w hw).symm) (tab_ke hI h0)⟩
theorem kal_ma {κ : KD} {al : (Nat → Nat) → Bool} {op kp bh ah : Nat → Nat} (h : kal κ al) (hk : kok κ) (h2 : κ.kd = 1) (h0 : ∀ j, j < κ.n → kp j = 0) : (bhP κ.f1 κ.f2 op κ.a κ.n bh κ.n 0 ≤ κ.b ↔ exW op κ.n al) ∧ keM op κ.n al (mkP κ.f1 κ.f2 op (bhP κ.f1 κ.f2 op κ.a κ.n bh κ.n) κ.b (va_up (mf ah 0 6) 0 0, kp) κ.n).2 := by
  obtain ⟨hS, hT⟩ := h.2.1 h2
  obtain ⟨-, h3, -, -, -, h4, -⟩ := hk.2.2.2.2.1 h2
  exact ⟨(fst_le (bh_least h4 hS) h3).trans (mac_exW hT), mac_ke h3 h4 hS hT h0⟩
theorem kal_ct {κ : KD} {al : (Nat → Nat) → Bool} {op bh ah : Nat → Nat} (h : kal κ al) (hk : kok κ) (w : Nat → Nat) : (κ.kd = 0 → twc κ.f1 op κ.n 0 (otF κ.f1 op κ.m κ.n) = cR op κ.n 0 (fun u => if al u = true then 1 else 0) w) ∧ (κ.kd = 1 → (if bhP κ.f1 κ.f2 op κ.a κ.n bh κ.n 0 ≤ κ.b then (mwF κ.f1 κ.f2 op (bhP κ.f1 κ.f2 op κ.a κ.n bh κ.n) κ.b κ.n 0 (va_up (mf ah 0 6) 0 0)).1 else 0) = cR op κ.n 0 (fun u => if al u = true then 1 else 0) w) ∧ (2 ≤ κ.kd → wcnt op κ.kd κ.n κ.a κ.b κ.z κ.n 0 0 = cR op κ.n 0 (fun u => if al u = true then 1 else 0) w) := by
  refine ⟨fun h2 => ?_, fun h2 => ?_, fun h2 => ?_⟩
  · obtain ⟨T, hI, hT⟩ := h.1 h2
    rw [tab_ct hI w]
    refine cR_cgo κ.n 0 w (fun u hu _ => ?_)
    rw [hT u (fun j hj => (opn_0.mp hu j hj).1)]
  · obtain ⟨hS, hT⟩ := h.2.1 h2
    obtain ⟨-, h3, -, -, -, h4, -⟩ := hk.2.2.2.2.1 h2
    exact mac_ct hk.2.1.1 h3 h4 hS hT w
  · have e := wcnt_cR (op := op) (kk := κ.kd) (n := κ.n) (a := κ.a) (b := κ.b) (z := κ.z) κ.n 0 w (by omega)
    have e2 : (stA κ.kd κ.n κ.a κ.b κ.z w 0).elim 0 (fun x => wcnt op κ.kd κ.n κ.a κ.b κ.z κ.n 0 x) = wcnt op κ.kd κ.n κ.a κ.b κ.z κ.n 0 0 := rfl
    rw [← e2, ← e]
    refine cR_cgo κ.n 0 w (fun u hu _ => ?_)
    rw [h.2.2 h2 u (fun j hj => (opn_0.mp hu j hj).1)]
/-- the program's constraint is the model's -/
def kmo (κ : KD) (ki wi rc ro lw hg wh mn tu sf sv so sc : Nat → Nat) (c : Nat) : Prop := (κ.kd = ki c ∧ κ.n = wi c ∧ κ.row = rc c ∧ κ.a = lw c ∧ κ.b = hg c ∧ κ.z = wh c ∧ κ.m = mn c) ∧ (∀ j, j < κ.n → dgt κ.row j = ro (6 * c + j)) ∧ (κ.kd = 0 → tabI κ.f1 (fun q => tu (20 * c + q)) κ.m κ.n) ∧ (κ.kd = 1 → macI κ.f1 κ.f2 sf sv so sc (30 * c) κ.m)
theorem alw_m {n a b z : Nat} {tB : Bool} {cO : Option Nat} {w : Nat → Nat} : alw 1 n a b z tB cO w = macO b cO := by
  unfold alw macO
  rw [if_neg (by decide), if_pos rfl]
  cases cO <;> rfl
theorem pth_iff {S T : Nat → Nat → Nat → Nat → Prop} {w : Nat → Nat} {n : Nat} (h : ∀ v s t c, v < 6 → (S v s t c ↔ T v s t c)) (hw : ∀ j, j < n → w j < 6) {en mo : Nat} : macA S en mo n w ↔ macA T en mo n w := by
  constructor
  · rintro ⟨c, hc, q, hq, he, hp⟩
    exact ⟨c, hc, q, hq, he, pth_mono (fun v s t c hv => (h v s t c hv).mp) (fun j _ hj => hw j (by omega)) hp⟩
  · rintro ⟨c, hc, q, hq, he, hp⟩
    exact ⟨c, hc, q, hq, he, pth_mono (fun v s t c hv => (h v s t c hv).mpr) (fun j _ hj => hw j (by omega)) hp⟩
theorem kal_of {κ : KD} {ki wi rc ro lw hg wh mn tu sf sv so sc : Nat → Nat} {c : Nat} (h : kmo κ ki wi rc ro lw hg wh mn tu sf sv so sc c) (hk : kok κ) (hsf : ∀ j, sf j < 6) (hso : ∀ j, so j < 6) (hsc : ∀ j, sc j ≤ 100) : kal κ (alF ki wi lw hg wh mn tu sf sv so sc c) := by
  obtain ⟨⟨e1, e2, e3, e4, e5, e6, e7⟩, -, h0, h1⟩ := h
  refine ⟨fun q => ?_, fun q => ?_, fun q => ?_⟩
  · refine ⟨fun q => tu (20 * c + q), h0 q, fun w _ => ?_⟩
    unfold alF alw
    rw [← e1, if_pos q, ← e2, ← e7]
    rfl
  · have hI := (h1 q).1
    have hv6 : ∀ v s t e, cSt κ.f1 κ.f2 v s t e → v < 6 := fun v s t e ⟨i, _, g, _⟩ => by
      have hz := (hk.2.2.2.2.1 q).2.2.2.2.2.2
      rcases Nat.lt_or_ge v 6 with o | o
      · exact o
      · rw [hz (v + 1) (by omega)] at g
        exact absurd g (Nat.not_lt_zero _)
    refine ⟨fun v s t e g => ?_, fun w hw => ?_⟩
    · obtain ⟨i, -, -, g2, g3, g4⟩ := (hI v s t e (hv6 v s t e g)).mp g
      rw [← g2, ← g3, ← g4]
      exact ⟨hsf _, hso _, hsc _⟩
    · rw [pth_iff hI hw]
      unfold alF
      rw [← e1, q, alw_m, ← e2, ← e4, ← e5, ← e7]
      exact macO_iff cost_lst
  · intro w hw
    obtain ⟨hk1, hk2, -, -, -, hk6, hk7⟩ := hk
    have hc := (hk6 q).1
    unfold alF alw
    rw [← e1, ← e2, ← e4, ← e5, ← e6, if_neg (by omega), if_neg (by omega)]
    rcases (show κ.kd = 2 ∨ κ.kd = 3 ∨ κ.kd = 4 ∨ κ.kd = 5 ∨ κ.kd = 6 by omega) with g | g | g | g | g
    · have h3 := hc.2.2.1 g
      rw [g, if_pos rfl, acc_el h3 (hw 0 (by omega)) (hw 1 (by omega))]
    · rw [g, if_neg (by decide), if_pos rfl, acc_ord (hk7 g) hk2 (fun j hj => hw j (by omega))]
    · rw [g, if_neg (by decide), if_neg (by decide), if_pos rfl, acc_sum]
    · rw [g, if_neg (by decide), if_neg (by decide), if_neg (by decide), if_pos rfl, acc_tal]
    · rw [g, if_neg (by decide), if_neg (by decide), if_neg (by decide), if_neg (by decide), acc_fir]
theorem fPut_lt {fi : Nat → Nat} {w tu b : Nat} (h : ∀ j, fi j < 1048576) (ht : tu < 20) : ∀ j, fPut fi w tu b j < 1048576 := fun j => by
  unfold fPut
  split
  · exact Nat.or_lt_two_pow (n := 20) (h j) (Nat.pow_lt_pow_right (a := 2) (by decide) ht)
  · exact h j
/-- a tuple more -/
def kTu (κ : KD) (w : Nat) : KD := (κ.kd, κ.n, κ.row, κ.a, κ.b, κ.z, κ.m + 1, κ.ad, κ.a1, κ.a2, fPut κ.f1 w κ.m (κ.n * 6), κ.f2)
theorem kok_tu {κ : KD} {w : Nat} (h : kok κ) (h0 : κ.kd = 0) (hm : κ.m < 20) : kok (kTu κ w) := by
  obtain ⟨h1, h2, h3, h4, h5, h6, h7⟩ := h
  exact ⟨h1, h2, h3, fun _ => ⟨hm, fPut_lt (h4 h0).2 hm⟩, fun q => absurd (h0.symm.trans q) (by decide), fun q => absurd (show 2 ≤ κ.kd from q) (by omega), h7⟩
theorem tabI_cg {fi T U : Nat → Nat} {m n : Nat} (h : ∀ t, t < m → T t = U t) (g : tabI fi T m n) : tabI fi U m n := fun j hj v hv t => by
  rw [g j hj v hv t]
  constructor
  · rintro ⟨a, b⟩
    exact ⟨a, by rw [← h t a]; exact b⟩
  · rintro ⟨a, b⟩
    exact ⟨a, by rw [h t a]; exact b⟩
theorem kmo_tu {κ : KD} {ki wi rc ro lw hg wh mn tu sf sv so sc : Nat → Nat} {c w : Nat} (h : kmo κ ki wi rc ro lw hg wh mn tu sf sv so sc c) (h0 : κ.kd = 0) : kmo (kTu κ w) ki wi rc ro lw hg wh (va_up mn c (mn c + 1)) (va_up tu (20 * c + mn c) w) sf sv so sc c := by
  obtain ⟨⟨e1, e2, e3, e4, e5, e6, e7⟩, hr, g0, g1⟩ := h
  refine ⟨⟨e1, e2, e3, e4, e5, e6, ?_⟩, hr, fun q => ?_, fun q => absurd (h0.symm.trans q) (by decide)⟩
  · show κ.m + 1 = _
    rw [va_up_self, e7]
  · refine tabI_cg (fun t _ => ?_) (tabI_s (x := w) (g0 h0))
    by_cases e : t = κ.m
    · rw [e, va_up_self, e7, va_up_self]
    · rw [va_up_ne _ _ e, va_up_ne _ _ (by omega)]
/-- a step more -/
def kSt (κ : KD) (f v t c : Nat) : KD := (κ.kd, κ.n, κ.row, κ.a, κ.b, κ.z, κ.m + 1, κ.ad, κ.a1, κ.a2, insF κ.f1 (κ.f2 (v + 1)) (κ.f2 6) ((f ||| t * 2 ^ 3) ||| c * 2 ^ 6), saI κ.f2 v 7)
theorem insF_lt {sp : Nat → Nat} {k b x B : Nat} (h : ∀ j, sp j < B) (hx : x < B) : ∀ j, insF sp k b x j < B := fun j => by
  unfold insF va_up shF
  (repeat' split)
  · exact hx
  · exact h _
  · exact h _
theorem kok_st {κ : KD} {f v t c : Nat} (h : kok κ) (h1 : κ.kd = 1) (hm : κ.m < 30) (hv : v < 6) (hf : f < 6) (ht : t < 6) (hc : c < 101) : kok (kSt κ f v t c) := by
  obtain ⟨k1, k2, k3, k4, k5, k6, k7⟩ := h
  obtain ⟨a1, a2, a3, a4, a5, a6, a7⟩ := k5 h1
  refine ⟨k1, k2, k3, fun q => absurd (q.symm.trans h1) (by decide), fun _ => ⟨a1, a2, hm, ?_, insF_lt a5 (pk3 f hf t ht c hc).2.2.2, fun j hj => ?_, fun j hj => ?_⟩, fun q => absurd (show 2 ≤ κ.kd from q) (by omega), k7⟩
  · show saI κ.f2 v 7 6 = κ.m + 1
    rw [saI_6 hv, a4]
  · have := a6 j hj
    show saI κ.f2 v 7 j ≤ saI κ.f2 v 7 (j + 1)
    unfold saI
    (repeat' split) <;> omega
  · show saI κ.f2 v 7 j = 0
    unfold saI
    rw [if_neg (by omega)]
    exact a7 j hj
theorem kmo_st {κ : KD} {ki wi rc ro lw hg wh mn tu sf sv so sc : Nat → Nat} {c f v t e : Nat} (h : kmo κ ki wi rc ro lw hg wh mn tu sf sv so sc c) (h1 : κ.kd = 1) (hv : v < 6) (hf : f < 6) (ht : t < 6) (he : e < 101) : kmo (kSt κ f v t e) ki wi rc ro lw hg wh (va_up mn c (mn c + 1)) tu (va_up sf (30 * c + mn c) f) (va_up sv (30 * c + mn c) v) (va_up so (30 * c + mn c) t) (va_up sc (30 * c + mn c) e) c := by
  obtain ⟨⟨e1, e2, e3, e4, e5, e6, e7⟩, hr, g0, g1⟩ := h
  refine ⟨⟨e1, e2, e3, e4, e5, e6, ?_⟩, hr, fun q => absurd (q.symm.trans h1) (by decide), fun _ => ?_⟩
  · show κ.m + 1 = _
    rw [va_up_self, e7]
  · rw [← e7]
    exact macI_s (g1 h1) hv hf ht he
/-- the model's tables may change elsewhere -/
theorem mSt_cg {sf sv so sc sf' sv' so' sc' : Nat → Nat} {b m : Nat} (h : ∀ i, i < m → sf (b + i) = sf' (b + i) ∧ sv (b + i) = sv' (b + i) ∧ so (b + i) = so' (b + i) ∧ sc (b + i) = sc' (b + i)) {v s t c : Nat} : mSt sf sv so sc b m v s t c ↔ mSt sf' sv' so' sc' b m v s t c := by
  constructor
  · rintro ⟨i, hi, g1, g2, g3, g4⟩
    obtain ⟨q1, q2, q3, q4⟩ := h i hi
    exact ⟨i, hi, by rw [← q2]; exact g1, by rw [← q1]; exact g2, by rw [← q3]; exact g3, by rw [← q4]; exact g4⟩
  · rintro ⟨i, hi, g1, g2, g3, g4⟩
    obtain ⟨q1, q2, q3, q4⟩ := h i hi
    exact ⟨i, hi, by rw [q2]; exact g1, by rw [q1]; exact g2, by rw [q3]; exact g3, by rw [q4]; exact g4⟩
theorem kmo_cg {κ : KD} {ki wi rc ro lw hg wh mn tu sf sv so sc ki' wi' rc' ro' lw' hg' wh' mn' tu' sf' sv' so' sc' : Nat → Nat} {c : Nat} (h : kmo κ ki wi rc ro lw hg wh mn tu sf sv so sc c) (e : ki c = ki' c ∧ wi c = wi' c ∧ rc c = rc' c ∧ lw c = lw' c ∧ hg c = hg' c ∧ wh c = wh' c ∧ mn c = mn' c) (er : ∀ j, j < wi c → ro (6 * c + j) = ro' (6 * c + j)) (et : ki c = 0 → ∀ q, q < mn c → tu (20 * c + q) = tu' (20 * c + q)) (es : ki c = 1 → ∀ i, i < mn c → sf (30 * c + i) = sf' (30 * c + i) ∧ sv (30 * c + i) = sv' (30 * c + i) ∧ so (30 * c + i) = so' (30 * c + i) ∧ sc (30 * c + i) = sc' (30 * c + i)) : kmo κ ki' wi' rc' ro' lw' hg' wh' mn' tu' sf' sv' so' sc' c := by
  obtain ⟨⟨e1, e2, e3, e4, e5, e6, e7⟩, hr, g0, g1⟩ := h
  obtain ⟨q1, q2, q3, q4, q5, q6, q7⟩ := e
  refine ⟨⟨e1.trans q1, e2.trans q2, e3.trans q3, e4.trans q4, e5.trans q5, e6.trans q6, e7.trans q7⟩, fun j hj => (hr j hj).trans (er j (by rw [← e2]; exact hj)), fun z => ?_, fun z => ?_⟩
  · exact tabI_cg (fun t ht => et (e1.symm.trans z) t (by rw [← e7]; exact ht)) (g0 z)
  · obtain ⟨a1, a2⟩ := g1 z
    exact ⟨fun v s t c2 hv => (a1 v s t c2 hv).trans (mSt_cg (fun i hi => es (e1.symm.trans z) i (by rw [← e7]; exact hi))), a2⟩
/-- a new one -/
def kNw (kd n row a b z ad a1 a2 : Nat) : KD := (kd, n, row, a, b, z, 0, ad, a1, a2, fun _ => 0, fun _ => 0)
theorem kok_nw {kd n row a b z ad a1 a2 : Nat} (h1 : kd ≤ 6) (h2 : 1 ≤ n ∧ n ≤ 6) (h3 : row < 262144) (h5 : kd = 1 → a < 64 ∧ b ≤ 1000) (h6 : 2 ≤ kd → okc kd n a b z) (h7 : kd = 3 → n % 2 = 0) : kok (kNw kd n row a b z ad a1 a2) :=
  ⟨h1, h2, h3, fun _ => ⟨Nat.zero_le _, fun _ => by show 0 < _; decide⟩, fun q => ⟨(h5 q).1, (h5 q).2, Nat.zero_le _, rfl, fun _ => by show 0 < _; decide, fun _ _ => Nat.le_refl _, fun _ _ => rfl⟩, fun q => ⟨h6 q, rfl⟩, h7⟩
theorem kmo_nw {kd n row a b z ad a1 a2 c : Nat} {ki wi rc ro lw hg wh mn tu sf sv so sc : Nat → Nat} (e : kd = ki c ∧ n = wi c ∧ row = rc c ∧ a = lw c ∧ b = hg c ∧ z = wh c ∧ 0 = mn c) (hr : ∀ j, j < n → dgt row j = ro (6 * c + j)) : kmo (kNw kd n row a b z ad a1 a2) ki wi rc ro lw hg wh mn tu sf sv so sc c :=
  ⟨e, hr, fun _ => tabI_0, fun _ => macI_0⟩
theorem hp_mx {row c n : Nat} {ro : Nat → Nat} (hr : ∀ j, j < n → dgt row j = ro (6 * c + j)) : ∀ i, i ≤ n → 1 ≤ i → dgt row (hpF row i) = mxF ro c i ∧ hpF row i < i
  | 0, _, h => absurd h (by decide)
  | i + 1, hi, _ => by
    rcases Nat.eq_zero_or_pos i with g | g
    · subst g
      show dgt row (if dgt row (hpF row 0) < dgt row 0 then 0 else hpF row 0) = (if 0 < ro (6 * c + 0) then ro (6 * c + 0) else 0) ∧ _
      have e0 : hpF row 0 = 0 := rfl
      have e := hr 0 (by omega)
      rw [e0, if_neg (Nat.lt_irrefl _), e]
      refine ⟨?_, ?_⟩
      · split <;> omega
      · show (if dgt row (hpF row 0) < dgt row 0 then 0 else hpF row 0) < 1
        rw [e0, if_neg (Nat.lt_irrefl _)]; decide
    · obtain ⟨h1, h2⟩ := hp_mx hr i (by omega) g
      show dgt row (if dgt row (hpF row i) < dgt row i then i else hpF row i) = (if mxF ro c i < ro (6 * c + i) then ro (6 * c + i) else mxF ro c i) ∧ (if dgt row (hpF row i) < dgt row i then i else hpF row i) < i + 1
      rw [h1, hr i (by omega)]
      by_cases q : mxF ro c i < ro (6 * c + i)
      · rw [if_pos q, if_pos q, hr i (by omega)]; exact ⟨rfl, by omega⟩
      · rw [if_neg q, if_neg q, h1]; exact ⟨rfl, by omega⟩
theorem ns_bit {row x : Nat} : ∀ i, (nsF row i).testBit x = true ↔ ∃ j, j < i ∧ dgt row j = x
  | 0 => by
    show (0 : Nat).testBit x = true ↔ _
    rw [Nat.zero_testBit]
    exact ⟨fun h => (by cases h), fun ⟨j, h, _⟩ => absurd h (Nat.not_lt_zero _)⟩
  | i + 1 => by
    show (nsF row i ||| 2 ^ dgt row i).testBit x = true ↔ _
    rw [Nat.testBit_or, Bool.or_eq_true, ns_bit i, two_bit]
    constructor
    · rintro (⟨j, h, g⟩ | h)
      · exact ⟨j, by omega, g⟩
      · exact ⟨i, by omega, h⟩
    · rintro ⟨j, h, g⟩
      by_cases e : j = i
      · subst e; exact Or.inr g
      · exact Or.inl ⟨j, by omega, g⟩
