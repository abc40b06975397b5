theorem fin_ch {P : Nat → Nat → Prop} : ∀ n, (∀ j, j < n → ∃ v, P j v) → ∃ w : Nat → Nat, ∀ j, j < n → P j (w j)
  | 0, _ => ⟨fun _ => 0, fun j h => absurd h (Nat.not_lt_zero _)⟩
  | n + 1, h => by
    obtain ⟨w, hw⟩ := fin_ch n (fun j hj => h j (by omega))
    obtain ⟨v, hv⟩ := h n (by omega)
    refine ⟨va_up w n v, fun j hj => ?_⟩
    by_cases e : j = n
    · subst e; rw [va_up_self]; exact hv
    · rw [va_up_ne _ _ e]; exact hw j (by omega)
theorem sv6_cgo {d : Nat} {f g : Nat → Nat} (h : ∀ v, v < 6 → d.testBit v = true → f v = g v) : sv6 d f = sv6 d g := by
  unfold sv6
  exact sm_cg (fun v hv => by
    by_cases q : d.testBit v = true
    · rw [if_pos q, if_pos q, h v hv q]
    · rw [if_neg q, if_neg q])
theorem cR_cgo {op : Nat → Nat} {F G : (Nat → Nat) → Nat} : ∀ d k w, (∀ u : Nat → Nat, opn op u k d → (∀ j, j < k → u j = w j) → F u = G u) → cR op d k F w = cR op d k G w
  | 0, k, w, h => h w (fun j h1 h2 => by omega) (fun _ _ => rfl)
  | d + 1, k, w, h => by
    refine sv6_cgo (fun v hv ho => cR_cgo d (k + 1) (va_up w k v) (fun u hu he => h u (fun j h1 h2 => ?_) (fun j hj => ?_)))
    · by_cases e : j = k
      · subst e
        rw [he j (by omega), va_up_self]; exact ⟨hv, ho⟩
      · exact hu j (by omega) (by omega)
    · rw [he j (by omega), va_up_ne _ _ (by omega)]
theorem cR_op {op oq : Nat → Nat} {F : (Nat → Nat) → Nat} : ∀ d k w, (∀ j, k ≤ j → j < k + d → op j = oq j) → cR op d k F w = cR oq d k F w
  | 0, _, _, _ => rfl
  | d + 1, k, w, h => by
    show sv6 (op k) _ = sv6 (oq k) _
    rw [h k (Nat.le_refl _) (by omega)]
    exact sv6_cg (fun v => cR_op d (k + 1) _ (fun j h1 h2 => h j (by omega) (by omega)))
theorem cR_0 {op : Nat → Nat} : ∀ d k w, cR op d k (fun _ => 0) w = 0
  | 0, _, _ => rfl
  | d + 1, k, w => by
    show sv6 (op k) _ = 0
    unfold sv6
    exact (sm_congr (fun v => by show (if _ then cR op d (k + 1) (fun _ => 0) (va_up w k v) else 0) = 0; rw [cR_0 d (k + 1)]; split <;> rfl) 6).trans (sm_0 6)
/-- words' beginnings don't matter where the sum runs over all places that are looked at -/
theorem cR_w {op : Nat → Nat} {F : (Nat → Nat) → Nat} {n : Nat} (hF : ∀ w u : Nat → Nat, (∀ j, j < n → w j = u j) → F w = F u) : ∀ d k, k + d = n → ∀ w u : Nat → Nat, (∀ j, j < k → w j = u j) → cR op d k F w = cR op d k F u
  | 0, k, e, w, u, h => hF w u (fun j hj => h j (by omega))
  | d + 1, k, e, w, u, h => by
    refine sv6_cg (fun v => cR_w hF d (k + 1) (by omega) _ _ (fun j hj => ?_))
    unfold va_up
    split
    · rfl
    · exact h j (by omega)
/-- the tables' bits are the tuples -/
def tabI (fi T : Nat → Nat) (m n : Nat) : Prop := ∀ j, j < n → ∀ v, v < 6 → ∀ t, (fi (j * 6 + v)).testBit t = true ↔ t < m ∧ (dgt (T t) j = 7 ∨ dgt (T t) j = v)
def tabA (T : Nat → Nat) (m n : Nat) (w : Nat → Nat) : Bool := anyB (fun q => allB (tupB w (T q)) n) m
theorem tupB_iff {w : Nat → Nat} {x j : Nat} : tupB w x j = true ↔ dgt x j = 7 ∨ dgt x j = w j := by
  unfold tupB
  rw [Bool.or_eq_true, decide_eq_true_iff, decide_eq_true_iff]
theorem tabA_iff {T w : Nat → Nat} {m n : Nat} : tabA T m n w = true ↔ ∃ t, t < m ∧ ∀ j, j < n → dgt (T t) j = 7 ∨ dgt (T t) j = w j := by
  unfold tabA
  rw [anyB_ex]
  constructor
  · rintro ⟨t, ht, h⟩
    exact ⟨t, ht, fun j hj => tupB_iff.mp (allB_ex.mp h j hj)⟩
  · rintro ⟨t, ht, h⟩
    exact ⟨t, ht, allB_ex.mpr (fun j hj => tupB_iff.mpr (h j hj))⟩
theorem orV_bit {fi op : Nat → Nat} {k t : Nat} : (orV fi op k 6).testBit t = true ↔ ∃ v, v < 6 ∧ (op k).testBit v = true ∧ (fi (k * 6 + v)).testBit t = true := by
  unfold orV
  rw [orS_bit, anyB_ex]
  constructor
  · rintro ⟨v, hv, h⟩
    by_cases g : (op k).testBit v = true
    · rw [if_pos g] at h; exact ⟨v, hv, g, h⟩
    · rw [if_neg g, Nat.zero_testBit] at h; cases h
  · rintro ⟨v, hv, g, h⟩
    exact ⟨v, hv, by rw [if_pos g]; exact h⟩
theorem otF_bit {fi op : Nat → Nat} {m t : Nat} : ∀ n, (otF fi op m n).testBit t = true ↔ t < m ∧ ∀ j, j < n → ∃ v, v < 6 ∧ (op j).testBit v = true ∧ (fi (j * 6 + v)).testBit t = true
  | 0 => by
    show (2 ^ m - 1).testBit t = true ↔ _
    rw [Nat.testBit_two_pow_sub_one, decide_eq_true_iff]
    exact ⟨fun h => ⟨h, fun j hj => absurd hj (Nat.not_lt_zero _)⟩, fun h => h.1⟩
  | n + 1 => by
    show (otF fi op m n &&& orV fi op n 6).testBit t = true ↔ _
    rw [Nat.testBit_and, Bool.and_eq_true, otF_bit n, orV_bit]
    constructor
    · rintro ⟨⟨h, g⟩, q⟩
      refine ⟨h, fun j hj => ?_⟩
      by_cases e : j = n
      · subst e; exact q
      · exact g j (by omega)
    · rintro ⟨h, g⟩
      exact ⟨⟨h, fun j hj => g j (by omega)⟩, g n (by omega)⟩
theorem ne0_bit {x : Nat} : ¬ x = 0 ↔ ∃ t, x.testBit t = true := by
  constructor
  · intro h
    exact Nat.exists_testBit_of_ne_zero h
  · rintro ⟨t, h⟩ e
    rw [e, Nat.zero_testBit] at h
    cases h
theorem tab_w {fi op T : Nat → Nat} {m n t : Nat} (hI : tabI fi T m n) (h : (otF fi op m n).testBit t = true) : ∃ w : Nat → Nat, ∀ j, j < n → w j < 6 ∧ (op j).testBit (w j) = true ∧ (dgt (T t) j = 7 ∨ dgt (T t) j = w j) := by
  obtain ⟨ht, h⟩ := (otF_bit n).mp h
  exact fin_ch (P := fun j v => v < 6 ∧ (op j).testBit v = true ∧ (dgt (T t) j = 7 ∨ dgt (T t) j = v)) n (fun j hj => by
    obtain ⟨v, hv, ho, hf⟩ := h j hj
    exact ⟨v, hv, ho, ((hI j hj v hv t).mp hf).2⟩)
theorem tab_t {fi op T w : Nat → Nat} {m n t : Nat} (hI : tabI fi T m n) (ht : t < m) (hw : ∀ j, j < n → w j < 6 ∧ (op j).testBit (w j) = true) (h : ∀ j, j < n → dgt (T t) j = 7 ∨ dgt (T t) j = w j) : (otF fi op m n).testBit t = true :=
  (otF_bit n).mpr ⟨ht, fun j hj => ⟨w j, (hw j hj).1, (hw j hj).2, (hI j hj _ (hw j hj).1 t).mpr ⟨ht, h j hj⟩⟩⟩
theorem tab_ex {fi op T : Nat → Nat} {m n : Nat} (hI : tabI fi T m n) : ¬ otF fi op m n = 0 ↔ exW op n (tabA T m n) := by
  rw [ne0_bit]
  constructor
  · rintro ⟨t, h⟩
    obtain ⟨w, hw⟩ := tab_w hI h
    exact ⟨w, fun j hj => ⟨(hw j hj).1, (hw j hj).2.1⟩, tabA_iff.mpr ⟨t, ((otF_bit n).mp h).1, fun j hj => (hw j hj).2.2⟩⟩
  · rintro ⟨w, hw, h⟩
    obtain ⟨t, ht, h⟩ := tabA_iff.mp h
    exact ⟨t, tab_t hI ht hw h⟩
theorem and0_bit {x y : Nat} : ¬ x &&& y = 0 ↔ ∃ t, x.testBit t = true ∧ y.testBit t = true := by
  rw [ne0_bit]
  constructor
  · rintro ⟨t, h⟩
    rw [Nat.testBit_and, Bool.and_eq_true] at h
    exact ⟨t, h⟩
  · rintro ⟨t, h⟩
    exact ⟨t, by rw [Nat.testBit_and, Bool.and_eq_true]; exact h⟩
theorem kfS_bit {fi op : Nat → Nat} {t k v : Nat} : (kfS fi op t k 6).testBit v = true ↔ v < 6 ∧ (op k).testBit v = true ∧ ¬ fi (k * 6 + v) &&& t = 0 := by
  unfold kfS
  rw [orS_bit, anyB_ex]
  constructor
  · rintro ⟨i, hi, h⟩
    by_cases g : (op k).testBit i = true ∧ ¬ fi (k * 6 + i) &&& t = 0
    · rw [if_pos g, Nat.testBit_two_pow] at h
      have : i = v := of_decide_eq_true h
      subst this
      exact ⟨hi, g⟩
    · rw [if_neg g, Nat.zero_testBit] at h; cases h
  · rintro ⟨hv, g⟩
    exact ⟨v, hv, by rw [if_pos g]; exact Nat.testBit_two_pow_self⟩
theorem tab_ke {fi op T kp : Nat → Nat} {m n : Nat} (hI : tabI fi T m n) (h0 : ∀ j, j < n → kp j = 0) : keM op n (tabA T m n) (kT kp fi op (otF fi op m n) n 0) := keM_mk (fun j hj v => by
  unfold kT
  rw [if_pos hj, h0 j hj, Nat.zero_or, kfS_bit]
  constructor
  · rintro ⟨hv, ho, h⟩
    rw [and0_bit] at h
    obtain ⟨t, h1, h2⟩ := h
    obtain ⟨ht, h1⟩ := (hI j hj v hv t).mp h1
    obtain ⟨w, hw⟩ := tab_w hI h2
    refine ⟨va_up w j v, fun i hi => ?_, ?_⟩
    · by_cases e : i = j
      · subst e; rw [va_up_self]; exact ⟨hv, ho⟩
      · rw [va_up_ne _ _ e]; exact ⟨(hw i hi).1, (hw i hi).2.1⟩
    · rw [Bool.and_eq_true]
      refine ⟨tabA_iff.mpr ⟨t, ht, fun i hi => ?_⟩, by rw [va_up_self]; exact decide_eq_true rfl⟩
      by_cases e : i = j
      · subst e; rw [va_up_self]; exact h1
      · rw [va_up_ne _ _ e]; exact (hw i hi).2.2
  · rintro ⟨w, hw, h⟩
    rw [Bool.and_eq_true] at h
    have e := of_decide_eq_true h.2
    obtain ⟨t, ht, g⟩ := tabA_iff.mp h.1
    have o := hw j hj
    rw [e] at o
    refine ⟨o.1, o.2, and0_bit.mpr ⟨t, (hI j hj v o.1 t).mpr ⟨ht, by rw [← e]; exact g j hj⟩, tab_t hI ht hw g⟩⟩)
/-- the tuples that are left behind d places of a word -/
def ftW (fi u : Nat → Nat) : Nat → Nat → Nat → Nat
  | 0, _, t => t
  | d + 1, k, t => ftW fi u d (k + 1) (t &&& fi (k * 6 + u k))
theorem ftW_0 {fi u : Nat → Nat} : ∀ d k, ftW fi u d k 0 = 0
  | 0, _ => rfl
  | d + 1, k => by
    show ftW fi u d (k + 1) (0 &&& _) = 0
    rw [Nat.zero_and]
    exact ftW_0 d (k + 1)
theorem ftW_dep {fi u w : Nat → Nat} : ∀ d k t, (∀ j, k ≤ j → u j = w j) → ftW fi u d k t = ftW fi w d k t
  | 0, _, _, _ => rfl
  | d + 1, k, t, h => by
    show ftW fi u d (k + 1) _ = ftW fi w d (k + 1) _
    rw [h k (Nat.le_refl _)]
    exact ftW_dep d (k + 1) _ (fun j hj => h j (by omega))
theorem twc_cR {fi op : Nat → Nat} : ∀ d k t w, twc fi op d k t = cR op d k (fun u => if ftW fi u d k t = 0 then 0 else 1) w
  | 0, _, t, _ => rfl
  | d + 1, k, t, w => by
    by_cases h : t = 0
    · subst h
      rw [twc_0]
      refine ((cR_cg (fun u => ?_) (d + 1) k w).trans (cR_0 (d + 1) k w)).symm
      show (if ftW fi u (d + 1) k 0 = 0 then 0 else 1) = 0
      rw [ftW_0, if_pos rfl]
    · rw [twc_s h]
      show sm (tcV fi op d k t) 6 = sv6 (op k) _
      unfold sv6
      refine sm_congr (fun v => ?_) 6
      unfold tcV
      by_cases q : (op k).testBit v = true
      · rw [if_pos q, if_pos q, twc_cR d (k + 1) _ (va_up w k v)]
        refine cR_cgo d (k + 1) (va_up w k v) (fun u _ he => ?_)
        show (if ftW fi u d (k + 1) (t &&& fi (k * 6 + v)) = 0 then 0 else 1) = (if ftW fi u d (k + 1) (t &&& fi (k * 6 + u k)) = 0 then 0 else 1)
        rw [he k (by omega), va_up_self]
      · rw [if_neg q, if_neg q]
theorem ftW_bit {fi u : Nat → Nat} {t : Nat} : ∀ d k x, (ftW fi u d k x).testBit t = true ↔ x.testBit t = true ∧ ∀ j, k ≤ j → j < k + d → (fi (j * 6 + u j)).testBit t = true
  | 0, k, x => ⟨fun h => ⟨h, fun j h1 h2 => by omega⟩, fun h => h.1⟩
  | d + 1, k, x => by
    show (ftW fi u d (k + 1) (x &&& fi (k * 6 + u k))).testBit t = true ↔ _
    rw [ftW_bit d (k + 1), Nat.testBit_and, Bool.and_eq_true]
    constructor
    · rintro ⟨⟨h1, h2⟩, h3⟩
      refine ⟨h1, fun j g1 g2 => ?_⟩
      by_cases e : j = k
      · subst e; exact h2
      · exact h3 j (by omega) (by omega)
    · rintro ⟨h1, h2⟩
      exact ⟨⟨h1, h2 k (Nat.le_refl _) (by omega)⟩, fun j g1 g2 => h2 j (by omega) (by omega)⟩
theorem tab_ct {fi op T : Nat → Nat} {m n : Nat} (hI : tabI fi T m n) (w : Nat → Nat) : twc fi op n 0 (otF fi op m n) = cR op n 0 (fun u => if tabA T m n u = true then 1 else 0) w := by
  rw [twc_cR n 0 _ w]
  refine cR_cgo n 0 w (fun u hu _ => ?_)
  have hu := opn_0.mp hu
  by_cases h : tabA T m n u = true
  · rw [if_pos h, if_neg]
    obtain ⟨t, ht, g⟩ := tabA_iff.mp h
    rw [ne0_bit]
    exact ⟨t, (ftW_bit n 0 _).mpr ⟨tab_t hI ht hu g, fun j _ hj => (hI j (by omega) _ (hu j (by omega)).1 t).mpr ⟨ht, g j (by omega)⟩⟩⟩
  · rw [if_neg h, if_pos]
    rcases Nat.eq_zero_or_pos (ftW fi u n 0 (otF fi op m n)) with q | q
    · exact q
    · exfalso
      apply h
      obtain ⟨t, g⟩ := ne0_bit.mp (Nat.pos_iff_ne_zero.mp q)
      obtain ⟨g1, g2⟩ := (ftW_bit n 0 _).mp g
      have ht := ((otF_bit n).mp g1).1
      exact tabA_iff.mpr ⟨t, ht, fun j hj => ((hI j hj _ (hu j hj).1 t).mp (g2 j (Nat.zero_le _) (by omega))).2⟩
theorem tabI_0 {T : Nat → Nat} {n : Nat} : tabI (fun _ => 0) T 0 n := fun j _ v _ t => ⟨fun h => (by rw [Nat.zero_testBit] at h; cases h), fun h => absurd h.1 (Nat.not_lt_zero _)⟩
theorem tabI_s {fi T : Nat → Nat} {m n x : Nat} (h : tabI fi T m n) : tabI (fPut fi x m (n * 6)) (va_up T m x) (m + 1) n := fun j hj v hv t => by
  have e1 : (j * 6 + v) / 6 = j := by omega
  have e2 : (j * 6 + v) % 6 = v := by omega
  have hb : j * 6 + v < n * 6 := by omega
  have key : (fPut fi x m (n * 6) (j * 6 + v)).testBit t = true ↔ (fi (j * 6 + v)).testBit t = true ∨ ((dgt x j = 7 ∨ dgt x j = v) ∧ t = m) := by
    unfold fPut
    rw [e1, e2]
    by_cases q : dgt x j = 7 ∨ dgt x j = v
    · rw [if_pos ⟨hb, q⟩, Nat.testBit_or, Bool.or_eq_true, Nat.testBit_two_pow, decide_eq_true_iff]
      exact ⟨fun g => g.elim Or.inl (fun g => Or.inr ⟨q, g.symm⟩), fun g => g.elim Or.inl (fun g => Or.inr g.2.symm)⟩
    · rw [if_neg (fun g => q g.2)]
      exact ⟨Or.inl, fun g => g.elim id (fun g => absurd g.1 q)⟩
  rw [key, h j hj v hv t]
  by_cases e : t = m
  · subst e
    rw [va_up_self]
    exact ⟨fun g => g.elim (fun g => absurd g.1 (Nat.lt_irrefl _)) (fun g => ⟨by omega, g.1⟩), fun g => Or.inr ⟨g.2, rfl⟩⟩
  · rw [va_up_ne _ _ e]
    exact ⟨fun g => g.elim (fun g => ⟨by omega, g.2⟩) (fun g => absurd g.2 e), fun g => Or.inl ⟨by omega, g.2⟩⟩
