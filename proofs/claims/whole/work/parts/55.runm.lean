theorem dif_dif : ∀ d, d < 64 → ∀ w, w < 64 → dif d (dif d w) = d &&& w := by decide +kernel
theorem pc_split : ∀ d, d < 64 → ∀ w, w < 64 → pc6 (d &&& w) + pc6 (dif d w) = pc6 d := by decide +kernel
theorem pc_le : ∀ d, d < 64 → pc6 d ≤ 6 := by decide +kernel
theorem pc_sm (w : Nat) : sm (fun v => w / 2 ^ v % 2) 6 = pc6 w := by
  show ((((((0 + w / 1 % 2) + w / 2 % 2) + w / 4 % 2) + w / 8 % 2) + w / 16 % 2) + w / 32 % 2) = _
  unfold pc6
  rw [Nat.div_one]
  omega
/-- domains, reasons, rounds, and how many values went -/
abbrev RS := (Nat → Nat) × (Nat → Int32) × (Nat → Int32) × Nat
def tk1 (ro fo : Nat → Nat) (c rd : Nat) (k : Nat) (σ : RS) : RS := (va_up σ.1 (ro (6 * c + k)) (σ.1 (ro (6 * c + k)) &&& fo k), mkS σ.2.1 (6 * ro (6 * c + k)) (dif (σ.1 (ro (6 * c + k))) (fo k)) (nI c) 6, mkS σ.2.2.1 (6 * ro (6 * c + k)) (dif (σ.1 (ro (6 * c + k))) (fo k)) (nI rd) 6, σ.2.2.2 + pc6 (dif (σ.1 (ro (6 * c + k))) (fo k)))
def tkP (ro fo : Nat → Nat) (c rd : Nat) (σ : RS) : Nat → RS := itr (tk1 ro fo c rd) σ
theorem tkP_s {ro fo : Nat → Nat} {c rd i : Nat} {σ : RS} : tkP ro fo c rd σ (i + 1) = tk1 ro fo c rd i (tkP ro fo c rd σ i) := rfl
theorem tkP_lt {ro fo : Nat → Nat} {c rd : Nat} {σ : RS} (h : ∀ j, σ.1 j < 64) : ∀ i j, (tkP ro fo c rd σ i).1 j < 64
  | 0, j => h j
  | i + 1, j => by
    rw [tkP_s]
    exact up_lt (tkP_lt h i) (Nat.lt_of_le_of_lt Nat.and_le_left (tkP_lt h i _)) j
theorem tkP_cg {ro fo go : Nat → Nat} {c rd : Nat} {σ : RS} : ∀ i, (∀ j, j < i → fo j = go j) → tkP ro fo c rd σ i = tkP ro go c rd σ i
  | 0, _ => rfl
  | i + 1, h => by
    rw [tkP_s, tkP_s, tkP_cg i (fun j hj => h j (by omega))]
    unfold tk1
    rw [h i (by omega)]
/-- a row's names are different -/
def rowD (ro : Nat → Nat) (c n : Nat) : Prop := ∀ i, i < n → ∀ j, j < n → ¬ i = j → ¬ ro (6 * c + i) = ro (6 * c + j)
theorem tkP_dm {ro fo : Nat → Nat} {c rd n : Nat} {σ : RS} (hr : rowD ro c n) : ∀ i, i ≤ n → (∀ x, (∀ j, j < i → ¬ ro (6 * c + j) = x) → (tkP ro fo c rd σ i).1 x = σ.1 x) ∧ ∀ j, j < i → (tkP ro fo c rd σ i).1 (ro (6 * c + j)) = σ.1 (ro (6 * c + j)) &&& fo j
  | 0, _ => ⟨fun _ _ => rfl, fun j hj => absurd hj (Nat.not_lt_zero _)⟩
  | i + 1, hi => by
    obtain ⟨h1, h2⟩ := tkP_dm (fo := fo) (rd := rd) (σ := σ) hr i (by omega)
    rw [tkP_s]
    refine ⟨fun x hx => ?_, fun j hj => ?_⟩
    · show va_up _ _ _ x = _
      rw [va_up_ne _ _ (fun e => hx i (by omega) e.symm)]
      exact h1 x (fun j hj => hx j (by omega))
    · show va_up _ _ _ (ro (6 * c + j)) = _
      by_cases e : j = i
      · subst e
        rw [va_up_self, h1 _ (fun q hq => hr q (by omega) j (by omega) (by omega))]
      · rw [va_up_ne _ _ (hr j (by omega) i (by omega) e)]
        exact h2 j (by omega)
def bits (dm : Nat → Nat) : Nat := sm (fun x => pc6 (dm x)) 6
theorem sm_up {f : Nat → Nat} {k : Nat} {g : Nat → Nat} (y : Nat) : ∀ n, k < n → sm (fun x => g (va_up f k y x)) n + g (f k) = sm (fun x => g (f x)) n + g y
  | 0, h => absurd h (Nat.not_lt_zero _)
  | n + 1, h => by
    show sm (fun x => g (va_up f k y x)) n + g (va_up f k y n) + g (f k) = sm (fun x => g (f x)) n + g (f n) + g y
    by_cases e : k = n
    · subst e
      rw [va_up_self, sm_cg (g := fun x => g (f x)) (fun i hi => by rw [va_up_ne _ _ (by omega)])]
      omega
    · have := sm_up (f := f) (k := k) (g := g) y n (by omega)
      rw [va_up_ne _ _ (by omega)]
      omega
theorem tkP_bits {ro fo : Nat → Nat} {c rd : Nat} {σ : RS} (h : ∀ j, σ.1 j < 64) (hr : ∀ j, ro j < 6) (hf : ∀ j, fo j < 64) : ∀ i, bits (tkP ro fo c rd σ i).1 + (tkP ro fo c rd σ i).2.2.2 = bits σ.1 + σ.2.2.2
  | 0 => rfl
  | i + 1 => by
    have ih := tkP_bits (c := c) (rd := rd) h hr hf i
    rw [tkP_s]
    have hl := tkP_lt (ro := ro) (fo := fo) (c := c) (rd := rd) h i (ro (6 * c + i))
    have hu := sm_up (f := (tkP ro fo c rd σ i).1) (k := ro (6 * c + i)) (g := pc6) ((tkP ro fo c rd σ i).1 (ro (6 * c + i)) &&& fo i) 6 (hr _)
    have hp := pc_split _ hl _ (hf i)
    show bits (va_up (tkP ro fo c rd σ i).1 (ro (6 * c + i)) ((tkP ro fo c rd σ i).1 (ro (6 * c + i)) &&& fo i)) + ((tkP ro fo c rd σ i).2.2.2 + pc6 (dif ((tkP ro fo c rd σ i).1 (ro (6 * c + i))) (fo i))) = _
    unfold bits at ih ⊢
    omega
/-- the open words of constraint c -/
def opL (wi ro dm : Nat → Nat) (c : Nat) : List (Nat → Nat) := prodL dm ro c (wi c) (fun _ => 0)
/-- one constraint's turn in a round; the second part is the first that failed -/
def tnF (AL : Nat → (Nat → Nat) → Bool) (wi ro : Nat → Nat) (rd c : Nat) (s : RS × Option Nat) : RS × Option Nat := if s.2.isSome = true then s else if (opL wi ro s.1.1 c).any (AL c) = true then (tkP ro (foM (AL c) (opL wi ro s.1.1 c)) c rd s.1 (wi c), none) else (s.1, some c)
def rdF (AL : Nat → (Nat → Nat) → Bool) (wi ro : Nat → Nat) (rd : Nat) (σ : RS) : Nat → RS × Option Nat := itr (tnF AL wi ro rd) (σ, none)
theorem rdF_s {AL : Nat → (Nat → Nat) → Bool} {wi ro : Nat → Nat} {rd c : Nat} {σ : RS} : rdF AL wi ro rd σ (c + 1) = tnF AL wi ro rd c (rdF AL wi ro rd σ c) := rfl
theorem rdF_t {AL : Nat → (Nat → Nat) → Bool} {wi ro : Nat → Nat} {rd c : Nat} {σ τ : RS} (h : rdF AL wi ro rd σ c = (τ, none)) (g : (opL wi ro τ.1 c).any (AL c) = true) : rdF AL wi ro rd σ (c + 1) = (tkP ro (foM (AL c) (opL wi ro τ.1 c)) c rd τ (wi c), none) := by
  rw [rdF_s, h]
  unfold tnF
  rw [if_neg (by exact Bool.false_ne_true), if_pos g]
theorem rdF_f {AL : Nat → (Nat → Nat) → Bool} {wi ro : Nat → Nat} {rd c : Nat} {σ τ : RS} (h : rdF AL wi ro rd σ c = (τ, none)) (g : ¬ (opL wi ro τ.1 c).any (AL c) = true) : ∀ d, rdF AL wi ro rd σ (c + 1 + d) = (τ, some c)
  | 0 => by
    show rdF AL wi ro rd σ (c + 1) = _
    rw [rdF_s, h]
    unfold tnF
    rw [if_neg (by exact Bool.false_ne_true), if_neg g]
  | d + 1 => by
    show tnF AL wi ro rd (c + 1 + d) (rdF AL wi ro rd σ (c + 1 + d)) = _
    rw [rdF_f h g d]
    unfold tnF
    exact if_pos rfl
def ruF (AL : Nat → (Nat → Nat) → Bool) (wi ro : Nat → Nat) (cs : Nat) : Nat → Nat → RS → RS × Nat × Option Nat
  | 0, rd, σ => (σ, rd, none)
  | f + 1, rd, σ => if (rdF AL wi ro (rd + 1) σ cs).2.isSome = true then ((rdF AL wi ro (rd + 1) σ cs).1, rd + 1, (rdF AL wi ro (rd + 1) σ cs).2) else if (rdF AL wi ro (rd + 1) σ cs).1.2.2.2 = σ.2.2.2 then ((rdF AL wi ro (rd + 1) σ cs).1, rd + 1, none) else ruF AL wi ro cs f (rd + 1) (rdF AL wi ro (rd + 1) σ cs).1
theorem ruF_fail {AL : Nat → (Nat → Nat) → Bool} {wi ro : Nat → Nat} {cs f rd c : Nat} {σ τ : RS} (h : rdF AL wi ro (rd + 1) σ cs = (τ, some c)) : ruF AL wi ro cs (f + 1) rd σ = (τ, rd + 1, some c) := by
  show (if _ then _ else _) = _
  rw [h]
  exact if_pos rfl
theorem ruF_stop {AL : Nat → (Nat → Nat) → Bool} {wi ro : Nat → Nat} {cs f rd : Nat} {σ τ : RS} (h : rdF AL wi ro (rd + 1) σ cs = (τ, none)) (g : τ.2.2.2 = σ.2.2.2) : ruF AL wi ro cs (f + 1) rd σ = (τ, rd + 1, none) := by
  show (if _ then _ else (if _ then _ else _)) = _
  rw [h]
  rw [if_neg (by exact Bool.false_ne_true), if_pos g]
theorem ruF_go {AL : Nat → (Nat → Nat) → Bool} {wi ro : Nat → Nat} {cs f rd : Nat} {σ τ : RS} (h : rdF AL wi ro (rd + 1) σ cs = (τ, none)) (g : ¬ τ.2.2.2 = σ.2.2.2) : ruF AL wi ro cs (f + 1) rd σ = ruF AL wi ro cs f (rd + 1) τ := by
  show (if _ then _ else (if _ then _ else _)) = _
  rw [h]
  rw [if_neg (by exact Bool.false_ne_true), if_neg g]
/-- what a run answers -/
def ruI (q : RS × Nat × Option Nat) : Int32 := q.2.2.elim (nI q.1.2.2.2) (fun c => (-100) - nI c)
theorem foM_lt (al : (Nat → Nat) → Bool) (L : List (Nat → Nat)) (j : Nat) : foM al L j < 64 := mkM_lt _
/-- what is kept of an open row isn't empty -/
theorem fo_ne {wi ro dm : Nat → Nat} {c j : Nat} {al : (Nat → Nat) → Bool} (hj : j < wi c) (h : (opL wi ro dm c).any al = true) : ¬ dm (ro (6 * c + j)) &&& foM al (opL wi ro dm c) j = 0 := by
  rw [List.any_eq_true] at h
  obtain ⟨w, hw, ha⟩ := h
  have hw2 := ((mem_prod (wi c) (fun _ => 0) w).mp hw).1 j hj
  intro e
  have hb : (dm (ro (6 * c + j)) &&& foM al (opL wi ro dm c) j).testBit (w j) = true := by
    rw [Nat.testBit_and, hw2.2, Bool.true_and]
    unfold foM
    rw [mkM_bit, decide_eq_true hw2.1, Bool.true_and, List.any_eq_true]
    exact ⟨w, hw, by rw [ha, decide_eq_true rfl]; rfl⟩
  rw [e, Nat.zero_testBit] at hb
  cases hb
def dmOk (nm : Nat) (dm : Nat → Nat) : Prop := (∀ j, dm j < 64) ∧ ∀ x, x < nm → ¬ dm x = 0
theorem tk_ok {AL : (Nat → Nat) → Bool} {wi ro : Nat → Nat} {nm c rd : Nat} {σ : RS} (hd : dmOk nm σ.1) (hr : rowD ro c (wi c)) (h : (opL wi ro σ.1 c).any AL = true) : dmOk nm (tkP ro (foM AL (opL wi ro σ.1 c)) c rd σ (wi c)).1 := by
  obtain ⟨h1, h2⟩ := tkP_dm (fo := foM AL (opL wi ro σ.1 c)) (rd := rd) (σ := σ) hr (wi c) (Nat.le_refl _)
  refine ⟨tkP_lt hd.1 _, fun x hx => ?_⟩
  by_cases e : ∃ j, j < wi c ∧ ro (6 * c + j) = x
  · obtain ⟨j, hj, rfl⟩ := e
    rw [h2 j hj]
    exact fo_ne hj h
  · rw [h1 x (fun j hj q => e ⟨j, hj, q⟩)]
    exact hd.2 x hx
theorem tkP_mono {ro fo : Nat → Nat} {c rd : Nat} {σ : RS} : ∀ i, σ.2.2.2 ≤ (tkP ro fo c rd σ i).2.2.2
  | 0 => Nat.le_refl _
  | i + 1 => by
    rw [tkP_s]
    exact Nat.le_trans (tkP_mono i) (Nat.le_add_right _ _)
theorem bits_le {dm : Nat → Nat} (h : ∀ j, dm j < 64) : bits dm ≤ 36 := sm_le (B := 6) (fun v => pc_le _ (h v)) 6
