theorem anyB_ex {f : Nat → Bool} : ∀ {n : Nat}, anyB f n = true ↔ ∃ i, i < n ∧ f i = true
  | 0 => ⟨fun h => (by cases h), fun ⟨i, h, _⟩ => absurd h (Nat.not_lt_zero _)⟩
  | n + 1 => by
    show (anyB f n || f n) = true ↔ _
    rw [Bool.or_eq_true, anyB_ex]
    constructor
    · rintro (⟨i, h, g⟩ | h)
      · exact ⟨i, by omega, g⟩
      · exact ⟨n, by omega, h⟩
    · rintro ⟨i, h, g⟩
      by_cases e : i = n
      · subst e; exact Or.inr g
      · exact Or.inl ⟨i, by omega, g⟩
theorem allB_ex {f : Nat → Bool} : ∀ {n : Nat}, allB f n = true ↔ ∀ i, i < n → f i = true
  | 0 => ⟨fun _ i h => absurd h (Nat.not_lt_zero _), fun _ => rfl⟩
  | n + 1 => by
    show (allB f n && f n) = true ↔ _
    rw [Bool.and_eq_true, allB_ex]
    constructor
    · rintro ⟨h, g⟩ i hi
      by_cases e : i = n
      · subst e; exact g
      · exact h i (by omega)
    · intro h
      exact ⟨fun i hi => h i (by omega), h n (by omega)⟩
theorem sm_pos {f : Nat → Nat} : ∀ {n : Nat}, 0 < sm f n ↔ ∃ i, i < n ∧ 0 < f i
  | 0 => ⟨fun h => absurd h (Nat.lt_irrefl 0), fun ⟨i, h, _⟩ => absurd h (Nat.not_lt_zero _)⟩
  | n + 1 => by
    show 0 < sm f n + f n ↔ _
    constructor
    · intro h
      rcases Nat.eq_zero_or_pos (f n) with g | g
      · obtain ⟨i, a, b⟩ := sm_pos.mp (show 0 < sm f n by omega)
        exact ⟨i, by omega, b⟩
      · exact ⟨n, by omega, g⟩
    · rintro ⟨i, h, g⟩
      by_cases e : i = n
      · subst e; omega
      · have := sm_pos.mpr ⟨i, show i < n by omega, g⟩
        omega
theorem opt_pos {α : Type} {o : Option α} {f : α → Nat} : 0 < o.elim 0 f ↔ ∃ y, o = some y ∧ 0 < f y := by
  cases o with
  | none => exact ⟨fun h => absurd h (Nat.lt_irrefl 0), fun ⟨y, e, _⟩ => by cases e⟩
  | some x => exact ⟨fun h => ⟨x, rfl, h⟩, fun ⟨y, e, h⟩ => by cases e; exact h⟩
/-- the state behind d places more, from a state -/
def stF (kk n a b z : Nat) (w : Nat → Nat) : Nat → Nat → Nat → Option Nat
  | 0, _, x => some x
  | d + 1, k, x => (aft kk n a b z x k (w k)).bind (fun y => stF kk n a b z w d (k + 1) y)
def acF (kk n a b z : Nat) (w : Nat → Nat) (d k x : Nat) : Bool := (stF kk n a b z w d k x).elim false (fun y => gud kk a b y)
theorem stF_dep {kk n a b z : Nat} {w u : Nat → Nat} : ∀ {d k x : Nat}, (∀ j, k ≤ j → j < k + d → w j = u j) → stF kk n a b z w d k x = stF kk n a b z u d k x
  | 0, _, _, _ => rfl
  | d + 1, k, x, h => by
    show (aft kk n a b z x k (w k)).bind _ = (aft kk n a b z x k (u k)).bind _
    rw [h k (Nat.le_refl _) (by omega)]
    congr 1
    funext y
    exact stF_dep (fun j h1 h2 => h j (by omega) (by omega))
theorem acF_dep {kk n a b z : Nat} {w u : Nat → Nat} {d k x : Nat} (h : ∀ j, k ≤ j → j < k + d → w j = u j) : acF kk n a b z w d k x = acF kk n a b z u d k x := by
  unfold acF
  rw [stF_dep h]
theorem acF_s {kk n a b z : Nat} {w : Nat → Nat} {d k x : Nat} : acF kk n a b z w (d + 1) k x = true ↔ ∃ y, aft kk n a b z x k (w k) = some y ∧ acF kk n a b z w d (k + 1) y = true := by
  show ((aft kk n a b z x k (w k)).bind _).elim false _ = true ↔ _
  cases aft kk n a b z x k (w k) with
  | none => exact ⟨fun h => (by cases h), fun ⟨y, e, _⟩ => by cases e⟩
  | some x2 => exact ⟨fun h => ⟨x2, rfl, h⟩, fun ⟨y, e, h⟩ => by cases e; exact h⟩
theorem stA_stF {kk n a b z : Nat} {w : Nat → Nat} : ∀ d k, stA kk n a b z w (k + d) = (stA kk n a b z w k).bind (fun x => stF kk n a b z w d k x)
  | 0, k => by
    show _ = (stA kk n a b z w k).bind some
    cases stA kk n a b z w k <;> rfl
  | d + 1, k => by
    rw [show k + (d + 1) = (k + 1) + d by omega, stA_stF d (k + 1)]
    show ((stA kk n a b z w k).bind _).bind _ = _
    cases stA kk n a b z w k <;> rfl
theorem acc_acF {kk n a b z : Nat} {w : Nat → Nat} : acc kk n a b z w = acF kk n a b z w n 0 0 := by
  unfold acc acF
  rw [show stA kk n a b z w n = stA kk n a b z w (0 + n) by rw [Nat.zero_add], stA_stF n 0]
  rfl
theorem nodeV_s {op : Nat → Nat} {kk n a b z k x v y : Nat} : nodeV op kk n a b z k x v = some y ↔ (op k).testBit v = true ∧ aft kk n a b z x k v = some y := by
  unfold nodeV
  by_cases h : (op k).testBit v = true
  · rw [if_pos h]; exact ⟨fun g => ⟨h, g⟩, fun g => g.2⟩
  · rw [if_neg h]; exact ⟨fun g => (by cases g), fun g => absurd g.1 h⟩
def opn (op : Nat → Nat) (w : Nat → Nat) (k d : Nat) : Prop := ∀ j, k ≤ j → j < k + d → w j < 6 ∧ (op j).testBit (w j) = true
theorem wcnt_pos {op : Nat → Nat} {kk n a b z : Nat} : ∀ d k x, 0 < wcnt op kk n a b z d k x ↔ ∃ w : Nat → Nat, opn op w k d ∧ acF kk n a b z w d k x = true
  | 0, k, x => by
    show 0 < (if gud kk a b x = true then 1 else 0) ↔ _
    constructor
    · intro h
      refine ⟨fun _ => 0, fun j h1 h2 => by omega, ?_⟩
      by_cases g : gud kk a b x = true
      · exact g
      · rw [if_neg g] at h; omega
    · rintro ⟨w, -, h⟩
      have h : gud kk a b x = true := h
      rw [if_pos h]; decide
  | d + 1, k, x => by
    rw [wcnt_s, sm_pos]
    constructor
    · rintro ⟨v, hv, h⟩
      unfold cnV at h
      rw [opt_pos] at h
      obtain ⟨y, e, h⟩ := h
      rw [nodeV_s] at e
      obtain ⟨w, ho, ha⟩ := (wcnt_pos d (k + 1) y).mp h
      refine ⟨va_up w k v, fun j h1 h2 => ?_, acF_s.mpr ⟨y, by rw [va_up_self]; exact e.2, ?_⟩⟩
      · by_cases q : j = k
        · subst q; rw [va_up_self]; exact ⟨hv, e.1⟩
        · rw [va_up_ne _ _ q]; exact ho j (by omega) (by omega)
      · rw [← ha]; exact acF_dep (fun j h1 _ => va_up_ne _ _ (by omega))
    · rintro ⟨w, ho, ha⟩
      obtain ⟨y, e, h⟩ := acF_s.mp ha
      have o := ho k (Nat.le_refl _) (by omega)
      refine ⟨w k, o.1, ?_⟩
      unfold cnV
      rw [opt_pos]
      exact ⟨y, nodeV_s.mpr ⟨o.2, e⟩, (wcnt_pos d (k + 1) y).mpr ⟨w, fun j h1 h2 => ho j (by omega) (by omega), h⟩⟩
theorem elim_bit {o : Option Nat} {f : Nat → Nat} {v : Nat} : (o.elim 0 f).testBit v = true ↔ ∃ y, o = some y ∧ (f y).testBit v = true := by
  cases o with
  | none => exact ⟨fun h => (by rw [show (none : Option Nat).elim 0 f = 0 from rfl, Nat.zero_testBit] at h; cases h), fun ⟨y, e, _⟩ => by cases e⟩
  | some x => exact ⟨fun h => ⟨x, rfl, h⟩, fun ⟨y, e, h⟩ => by cases e; exact h⟩
theorem kmk_bit {op : Nat → Nat} {kk n a b z : Nat} : ∀ d k x j v, (kmk op kk n a b z d k x j).testBit v = true ↔ (k ≤ j ∧ j < k + d) ∧ ∃ w : Nat → Nat, opn op w k d ∧ acF kk n a b z w d k x = true ∧ w j = v
  | 0, k, x, j, v => by
    show (0 : Nat).testBit v = true ↔ _
    rw [Nat.zero_testBit]
    exact ⟨fun h => (by cases h), fun h => by omega⟩
  | d + 1, k, x, j, v => by
    show (orS _ 6).testBit v = true ↔ _
    rw [orS_bit, anyB_ex]
    constructor
    · rintro ⟨i, hi, h⟩
      have h : ((nodeV op kk n a b z k x i).elim 0 _).testBit v = true := h
      rw [elim_bit] at h
      obtain ⟨y, e, h⟩ := h
      rw [nodeV_s] at e
      rw [Nat.testBit_or, Bool.or_eq_true] at h
      rcases h with h | h
      · obtain ⟨hj, w, ho, ha, hw⟩ := (kmk_bit d (k + 1) y j v).mp h
        refine ⟨by omega, va_up w k i, fun j h1 h2 => ?_, acF_s.mpr ⟨y, by rw [va_up_self]; exact e.2, ?_⟩, ?_⟩
        · by_cases q : j = k
          · subst q; rw [va_up_self]; exact ⟨hi, e.1⟩
          · rw [va_up_ne _ _ q]; exact ho j (by omega) (by omega)
        · rw [← ha]; exact acF_dep (fun j h1 _ => va_up_ne _ _ (by omega))
        · rw [va_up_ne _ _ (by omega)]; exact hw
      · by_cases q : j = k ∧ 0 < wcnt op kk n a b z d (k + 1) y
        · rw [if_pos q, Nat.testBit_two_pow] at h
          have hv : i = v := of_decide_eq_true h
          obtain ⟨w, ho, ha⟩ := (wcnt_pos d (k + 1) y).mp q.2
          refine ⟨by omega, va_up w k i, fun j h1 h2 => ?_, acF_s.mpr ⟨y, by rw [va_up_self]; exact e.2, ?_⟩, ?_⟩
          · by_cases q : j = k
            · subst q; rw [va_up_self]; exact ⟨hi, e.1⟩
            · rw [va_up_ne _ _ q]; exact ho j (by omega) (by omega)
          · rw [← ha]; exact acF_dep (fun j h1 _ => va_up_ne _ _ (by omega))
          · rw [q.1, va_up_self, hv]
        · rw [if_neg q, Nat.zero_testBit] at h
          cases h
    · rintro ⟨hj, w, ho, ha, hw⟩
      obtain ⟨y, e, h⟩ := acF_s.mp ha
      have o := ho k (Nat.le_refl _) (by omega)
      refine ⟨w k, o.1, ?_⟩
      show ((nodeV op kk n a b z k x (w k)).elim 0 _).testBit v = true
      rw [elim_bit]
      refine ⟨y, nodeV_s.mpr ⟨o.2, e⟩, ?_⟩
      rw [Nat.testBit_or, Bool.or_eq_true]
      by_cases q : j = k
      · refine Or.inr ?_
        rw [if_pos ⟨q, (wcnt_pos d (k + 1) y).mpr ⟨w, fun j h1 h2 => ho j (by omega) (by omega), h⟩⟩, Nat.testBit_two_pow]
        subst q
        exact decide_eq_true hw
      · exact Or.inl ((kmk_bit d (k + 1) y j v).mpr ⟨by omega, w, fun j h1 h2 => ho j (by omega) (by omega), h, hw⟩)
/-- what a constraint with allowance al answers over what is open: whether it allows a word, and the masks of the values kept -/
def keM (op : Nat → Nat) (n : Nat) (al : (Nat → Nat) → Bool) (kp : Nat → Nat) : Prop := ∀ j, j < n → kp j < 64 ∧ ∀ v, (kp j).testBit v = true ↔ exW op n (fun w => al w && decide (w j = v))
theorem bit_lt {x : Nat} (h : ∀ v, x.testBit v = true → v < 6) : x < 64 := by
  apply Nat.lt_pow_two_of_testBit (n := 6)
  intro i hi
  rw [Bool.eq_false_iff]
  intro q
  have := h i q
  omega
theorem exW_lt {op : Nat → Nat} {n j v : Nat} {al : (Nat → Nat) → Bool} (hj : j < n) (h : exW op n (fun w => al w && decide (w j = v))) : v < 6 := by
  obtain ⟨w, hw, h⟩ := h
  rw [Bool.and_eq_true] at h
  have := of_decide_eq_true h.2
  have := (hw j hj).1
  omega
theorem keM_mk {op : Nat → Nat} {n : Nat} {al : (Nat → Nat) → Bool} {kp : Nat → Nat} (h : ∀ j, j < n → ∀ v, (kp j).testBit v = true ↔ exW op n (fun w => al w && decide (w j = v))) : keM op n al kp := fun j hj => ⟨bit_lt (fun v q => exW_lt hj ((h j hj v).mp q)), h j hj⟩
theorem keM_eq {op : Nat → Nat} {n j : Nat} {al : (Nat → Nat) → Bool} {kp kq : Nat → Nat} (h : keM op n al kp) (g : keM op n al kq) (hj : j < n) : kp j = kq j := by
  apply Nat.eq_of_testBit_eq
  intro i
  rw [Bool.eq_iff_iff]
  exact ((h j hj).2 i).trans ((g j hj).2 i).symm
theorem opn_0 {op w : Nat → Nat} {n : Nat} : opn op w 0 n ↔ ∀ j, j < n → w j < 6 ∧ (op j).testBit (w j) = true := ⟨fun h j hj => h j (Nat.zero_le _) (by omega), fun h j _ hj => h j (by omega)⟩
theorem wk_ex {op : Nat → Nat} {kk n a b z : Nat} : 0 < wcnt op kk n a b z n 0 0 ↔ exW op n (acc kk n a b z) := by
  rw [wcnt_pos]
  constructor
  · rintro ⟨w, ho, ha⟩
    exact ⟨w, opn_0.mp ho, by rw [acc_acF]; exact ha⟩
  · rintro ⟨w, ho, ha⟩
    exact ⟨w, opn_0.mpr ho, by rw [acc_acF] at ha; exact ha⟩
theorem wk_ke {op kp : Nat → Nat} {kk n a b z : Nat} (h0 : ∀ j, j < n → kp j = 0) : keM op n (acc kk n a b z) (kpK kp (kmk op kk n a b z n 0 0)) := keM_mk (fun j hj v => by
  show (kp j ||| kmk op kk n a b z n 0 0 j).testBit v = true ↔ _
  rw [h0 j hj, Nat.zero_or, kmk_bit]
  constructor
  · rintro ⟨-, w, ho, ha, hw⟩
    exact ⟨w, opn_0.mp ho, by rw [Bool.and_eq_true, acc_acF]; exact ⟨ha, decide_eq_true hw⟩⟩
  · rintro ⟨w, ho, ha⟩
    rw [Bool.and_eq_true, acc_acF] at ha
    exact ⟨by omega, w, opn_0.mpr ho, ha.1, of_decide_eq_true ha.2⟩)
theorem exW_cg {op : Nat → Nat} {n : Nat} {al be : (Nat → Nat) → Bool} (h : ∀ w : Nat → Nat, (∀ j, j < n → w j < 6) → al w = be w) : exW op n al ↔ exW op n be :=
  ⟨fun ⟨w, hw, q⟩ => ⟨w, hw, by rw [← h w (fun j hj => (hw j hj).1)]; exact q⟩, fun ⟨w, hw, q⟩ => ⟨w, hw, by rw [h w (fun j hj => (hw j hj).1)]; exact q⟩⟩
theorem keM_cg {op : Nat → Nat} {n : Nat} {al be : (Nat → Nat) → Bool} {kp : Nat → Nat} (h : ∀ w : Nat → Nat, (∀ j, j < n → w j < 6) → al w = be w) (g : keM op n al kp) : keM op n be kp := fun j hj => ⟨(g j hj).1, fun v => ((g j hj).2 v).trans (exW_cg (fun w hw => by rw [h w hw]))⟩
theorem exW_op {op oq : Nat → Nat} {n : Nat} {al : (Nat → Nat) → Bool} (h : ∀ j, j < n → op j = oq j) : exW op n al ↔ exW oq n al :=
  ⟨fun ⟨w, hw, q⟩ => ⟨w, fun j hj => by rw [← h j hj]; exact hw j hj, q⟩, fun ⟨w, hw, q⟩ => ⟨w, fun j hj => by rw [h j hj]; exact hw j hj, q⟩⟩
theorem keM_op {op oq : Nat → Nat} {n : Nat} {al : (Nat → Nat) → Bool} {kp : Nat → Nat} (h : ∀ j, j < n → op j = oq j) (g : keM op n al kp) : keM oq n al kp := fun j hj => ⟨(g j hj).1, fun v => ((g j hj).2 v).trans (exW_op h)⟩
