theorem pk2 : ∀ x, x < 6 → ∀ y, y < 6 → dgt (x ||| y * 2 ^ 3) 0 = x ∧ dgt (x ||| y * 2 ^ 3) 1 = y := by decide +kernel
def eC (w : Nat → Nat) (j : Nat) : Bool := !decide (j = w 0) || decide (w (2 + j) = w 1)
theorem st_el {n a b z : Nat} {w : Nat → Nat} (h0 : w 0 < 6) (h1 : w 1 < 6) : ∀ i, stA 2 n a b z w (2 + i) = if (decide (w 0 < n - 2) && allB (eC w) i) = true then some (w 0 ||| w 1 * 2 ^ 3) else none
  | 0 => by
    show ((some 0).bind (fun x => aEl n x 0 (w 0))).bind (fun x => aEl n x 1 (w 1)) = (if (decide (w 0 < n - 2) && true) = true then some (w 0 ||| w 1 * 2 ^ 3) else none)
    show (aEl n 0 0 (w 0)).bind (fun x => aEl n x 1 (w 1)) = _
    show (if w 0 < n - 2 then some (w 0) else none).bind (fun x => aEl n x 1 (w 1)) = _
    by_cases h : w 0 < n - 2
    · rw [if_pos h, decide_eq_true h]; rfl
    · rw [if_neg h, decide_eq_false h]; rfl
  | i + 1 => by
    show (stA 2 n a b z w (2 + i)).bind (fun x => aEl n x (2 + i) (w (2 + i))) = (if (decide (w 0 < n - 2) && (allB (eC w) i && eC w i)) = true then some (w 0 ||| w 1 * 2 ^ 3) else none)
    rw [st_el h0 h1 i]
    by_cases h : (decide (w 0 < n - 2) && allB (eC w) i) = true
    · rw [if_pos h, ← Bool.and_assoc, h, Bool.true_and]
      obtain ⟨p0, p1⟩ := pk2 _ h0 _ h1
      show (if 2 + i = 0 then _ else if 2 + i = 1 then _ else if 2 + i - 2 = dgt (w 0 ||| w 1 * 2 ^ 3) 0 ∧ ¬ w (2 + i) = dgt (w 0 ||| w 1 * 2 ^ 3) 1 then none else some (w 0 ||| w 1 * 2 ^ 3)) = _
      rw [if_neg (by omega), if_neg (by omega), p0, p1, show 2 + i - 2 = i by omega]
      unfold eC
      by_cases g : i = w 0 <;> by_cases q : w (2 + i) = w 1 <;> simp_all
    · rw [if_neg h, ← Bool.and_assoc]
      have h : (decide (w 0 < n - 2) && allB (eC w) i) = false := by simpa using h
      rw [h]
      rfl
theorem acc_el {n a b z : Nat} {w : Nat → Nat} (hn : 3 ≤ n) (h0 : w 0 < 6) (h1 : w 1 < 6) : acc 2 n a b z w = (decide (w 0 < n - 2) && decide (w (2 + w 0) = w 1)) := by
  unfold acc
  rw [show n = 2 + (n - 2) by omega, st_el h0 h1, show 2 + (n - 2) - 2 = n - 2 by omega]
  by_cases h : w 0 < n - 2
  · rw [decide_eq_true h, Bool.true_and, Bool.true_and]
    by_cases g : w (2 + w 0) = w 1
    · have : allB (eC w) (n - 2) = true := by
        have key : ∀ m, allB (eC w) m = true := by
          intro m
          induction m with
          | zero => rfl
          | succ m ih =>
            show (allB (eC w) m && eC w m) = true
            rw [ih, Bool.true_and]
            unfold eC
            by_cases q : m = w 0
            · rw [q, decide_eq_true g, Bool.or_true]
            · rw [decide_eq_false q]; rfl
        exact key _
      rw [if_pos this, decide_eq_true g]; rfl
    · have : allB (eC w) (n - 2) = false := allB_f (i := w 0) h (by unfold eC; rw [decide_eq_true rfl, decide_eq_false g]; rfl)
      rw [if_neg (by rw [this]; decide), decide_eq_false g]; rfl
  · rw [decide_eq_false h]; rfl
/-- the first half's values, three bits each -/
def pkF (w : Nat → Nat) : Nat → Nat
  | 0 => 0
  | i + 1 => pkF w i ||| w i * 2 ^ (3 * i)
/-- how the halves compare in their first i places: 0 alike, 1 before; none: behind -/
def cmO (w : Nat → Nat) (hf : Nat) : Nat → Option Nat
  | 0 => some 0
  | i + 1 => (cmO w hf i).bind (fun q => if q = 1 then some 1 else if w i = w (hf + i) then some 0 else if w i < w (hf + i) then some 1 else none)
theorem pk_a : ∀ x, x < 6 → x / 2 ^ 3 = 0 ∧ dgt x 0 = x ∧ ¬ x = 63 := by decide +kernel
theorem pk_b : ∀ x, x < 6 → ∀ y, y < 6 → dgt (x ||| y * 2 ^ 3) 0 = x ∧ ¬ (x ||| y * 2 ^ 3) = 63 ∧ (x ||| y * 2 ^ 3) / 2 ^ 3 = y := by decide +kernel
theorem pk_c : ∀ x, x < 6 → ∀ y, y < 6 → ∀ z, z < 6 → dgt ((x ||| y * 2 ^ 3) ||| z * 2 ^ 6) 0 = x ∧ ¬ ((x ||| y * 2 ^ 3) ||| z * 2 ^ 6) = 63 ∧ ((x ||| y * 2 ^ 3) ||| z * 2 ^ 6) / 2 ^ 3 = (y ||| z * 2 ^ 3) := by decide +kernel
theorem pk_all {w : Nat → Nat} {hf : Nat} (hw : ∀ j, j < hf → w j < 6) (h1 : 1 ≤ hf) (h3 : hf ≤ 3) : ∀ i, i < hf → dgt (pkF w hf / 2 ^ (3 * i)) 0 = w i ∧ ¬ pkF w hf / 2 ^ (3 * i) = 63 := by
  intro i hi
  rcases (show hf = 1 ∨ hf = 2 ∨ hf = 3 by omega) with rfl | rfl | rfl
  · have a := pk_a _ (hw 0 (by omega))
    rcases (show i = 0 by omega) with rfl
    have e : pkF w 1 = w 0 := by show 0 ||| w 0 * 2 ^ 0 = w 0; simp
    rw [e]
    simpa using a.2
  · have a := pk_b _ (hw 0 (by omega)) _ (hw 1 (by omega))
    have c := pk_a _ (hw 1 (by omega))
    have e : pkF w 2 = w 0 ||| w 1 * 2 ^ 3 := by show (0 ||| w 0 * 2 ^ 0) ||| w 1 * 2 ^ 3 = _; simp
    rw [e]
    rcases (show i = 0 ∨ i = 1 by omega) with rfl | rfl
    · simp only [Nat.mul_zero, Nat.pow_zero, Nat.div_one]; exact ⟨a.1, a.2.1⟩
    · simp only [Nat.mul_one]; rw [a.2.2]; exact c.2
  · have a := pk_c _ (hw 0 (by omega)) _ (hw 1 (by omega)) _ (hw 2 (by omega))
    have b := pk_b _ (hw 1 (by omega)) _ (hw 2 (by omega))
    have c := pk_a _ (hw 2 (by omega))
    have e : pkF w 3 = (w 0 ||| w 1 * 2 ^ 3) ||| w 2 * 2 ^ 6 := by show ((0 ||| w 0 * 2 ^ 0) ||| w 1 * 2 ^ 3) ||| w 2 * 2 ^ 6 = _; simp
    rw [e]
    rcases (show i = 0 ∨ i = 1 ∨ i = 2 by omega) with rfl | rfl | rfl
    · simp only [Nat.mul_zero, Nat.pow_zero, Nat.div_one]; exact ⟨a.1, a.2.1⟩
    · simp only [Nat.mul_one]; rw [a.2.2]; exact ⟨b.1, b.2.1⟩
    · rw [show 2 ^ (3 * 2) = 2 ^ 3 * 2 ^ 3 by decide, ← Nat.div_div_eq_div_mul, a.2.2, b.2.2]; exact c.2
theorem st_or1 {n a b z : Nat} {w : Nat → Nat} : ∀ k, k ≤ n / 2 → stA 3 n a b z w k = some (pkF w k)
  | 0, _ => rfl
  | k + 1, h => by
    show (stA 3 n a b z w k).bind (fun x => aOr n x k (w k)) = _
    rw [st_or1 k (by omega)]
    show (if k < n / 2 ^ 1 then some (pkF w k ||| w k * 2 ^ (3 * k)) else _) = _
    rw [if_pos (by rw [Nat.pow_one]; omega)]
    rfl
theorem st_or2 {n a b z : Nat} {w : Nat → Nat} (hw : ∀ j, j < n / 2 → w j < 6) (h1 : 1 ≤ n / 2) (h3 : n / 2 ≤ 3) : ∀ i, i ≤ n / 2 → stA 3 n a b z w (n / 2 + i) = (cmO w (n / 2) i).map (fun q => if q = 1 then 63 else pkF w (n / 2) / 2 ^ (3 * i)) ∧ ∀ q, cmO w (n / 2) i = some q → q = 0 ∨ q = 1
  | 0, _ => by
    refine ⟨?_, fun q e => by cases e; exact Or.inl rfl⟩
    rw [Nat.add_zero, st_or1 _ (Nat.le_refl _)]
    show _ = some (if 0 = 1 then 63 else pkF w (n / 2) / 2 ^ (3 * 0))
    rw [if_neg (by decide), Nat.mul_zero, Nat.pow_zero, Nat.div_one]
  | i + 1, h => by
    obtain ⟨ih, iq⟩ := st_or2 (a := a) (b := b) (z := z) hw h1 h3 i (by omega)
    obtain ⟨d0, d1⟩ := pk_all hw h1 h3 i (by omega)
    have es : stA 3 n a b z w (n / 2 + (i + 1)) = (stA 3 n a b z w (n / 2 + i)).bind (fun x => aOr n x (n / 2 + i) (w (n / 2 + i))) := rfl
    have ec : cmO w (n / 2) (i + 1) = (cmO w (n / 2) i).bind (fun q => if q = 1 then some 1 else if w i = w (n / 2 + i) then some 0 else if w i < w (n / 2 + i) then some 1 else none) := rfl
    have hk : ¬ n / 2 + i < n / 2 ^ 1 := by rw [Nat.pow_one]; omega
    rw [es, ec, ih]
    cases hc : cmO w (n / 2) i with
    | none => exact ⟨rfl, fun q e => by cases e⟩
    | some q =>
      rcases iq q hc with rfl | rfl
      · show (aOr n (if 0 = 1 then 63 else pkF w (n / 2) / 2 ^ (3 * i)) (n / 2 + i) (w (n / 2 + i)) = ((if (0 : Nat) = 1 then some 1 else if w i = w (n / 2 + i) then some 0 else if w i < w (n / 2 + i) then some 1 else none) : Option Nat).map _) ∧ _
        rw [if_neg (by decide)]
        unfold aOr
        rw [if_neg hk, d0]
        by_cases g1 : w i = w (n / 2 + i)
        · rw [if_neg (by intro q; rcases q with q | q; exact d1 q; omega), if_neg (by omega)]
          simp only [if_neg (show ¬ (0 : Nat) = 1 by decide), if_pos g1]
          refine ⟨?_, fun q e => by cases e; exact Or.inl rfl⟩
          show some (pkF w (n / 2) / 2 ^ (3 * i) / 2 ^ 3) = some (if 0 = 1 then 63 else pkF w (n / 2) / 2 ^ (3 * (i + 1)))
          rw [if_neg (by decide), Nat.div_div_eq_div_mul, ← Nat.pow_add, Nat.mul_succ]
        · by_cases g2 : w i < w (n / 2 + i)
          · rw [if_pos (Or.inr g2)]
            simp only [if_neg (show ¬ (0 : Nat) = 1 by decide), if_neg g1, if_pos g2]
            exact ⟨rfl, fun q e => by cases e; exact Or.inr rfl⟩
          · rw [if_neg (by intro q; rcases q with q | q; exact d1 q; omega), if_pos (by omega)]
            simp only [if_neg (show ¬ (0 : Nat) = 1 by decide), if_neg g1, if_neg g2]
            exact ⟨rfl, fun q e => by cases e⟩
      · refine ⟨?_, fun q e => by cases e; exact Or.inr rfl⟩
        show aOr n 63 (n / 2 + i) (w (n / 2 + i)) = some 63
        unfold aOr
        rw [if_neg hk, if_pos (Or.inl rfl)]
theorem ord_cm {w : Nat → Nat} {hf a : Nat} : ∀ f i, i + f = hf → ∀ q, cmO w hf i = some q → (q = 0 → ordB w hf a f i = (cmO w hf hf).elim false (fun z => decide (z = 1) || decide (a = 0))) ∧ (q = 1 → cmO w hf hf = some 1)
  | 0, i, e, q, h => by
    have e : i = hf := by omega
    subst e
    rw [h]
    refine ⟨fun q0 => ?_, fun q1 => by rw [q1]⟩
    subst q0
    show decide (a = 0) = (decide (0 = 1) || decide (a = 0))
    simp
  | f + 1, i, e, q, h => by
    have ec : cmO w hf (i + 1) = (cmO w hf i).bind (fun q => if q = 1 then some 1 else if w i = w (hf + i) then some 0 else if w i < w (hf + i) then some 1 else none) := rfl
    rw [h] at ec
    refine ⟨fun q0 => ?_, fun q1 => ?_⟩
    · subst q0
      have ec : cmO w hf (i + 1) = (if w i = w (hf + i) then some 0 else if w i < w (hf + i) then some 1 else none) := ec
      by_cases g1 : w i = w (hf + i)
      · rw [if_pos g1] at ec
        rw [ordB_e g1]
        exact (ord_cm f (i + 1) (by omega) 0 ec).1 rfl
      · rw [if_neg g1] at ec
        rw [ordB_n g1]
        by_cases g2 : w i < w (hf + i)
        · rw [if_pos g2] at ec
          rw [(ord_cm (a := a) f (i + 1) (by omega) 1 ec).2 rfl, decide_eq_true g2]
          rfl
        · rw [if_neg g2] at ec
          have hn : ∀ d, cmO w hf (i + 1 + d) = none := by
            intro d
            induction d with
            | zero => exact ec
            | succ d ih =>
              show (cmO w hf (i + 1 + d)).bind _ = none
              rw [ih]
              rfl
          have := hn (hf - (i + 1))
          rw [show i + 1 + (hf - (i + 1)) = hf by omega] at this
          rw [this, decide_eq_false g2]
          rfl
    · subst q1
      exact (ord_cm (a := a) f (i + 1) (by omega) 1 ec).2 rfl
theorem acc_ord {n a b z : Nat} {w : Nat → Nat} (he : n % 2 = 0) (hn : 1 ≤ n ∧ n ≤ 6) (hw : ∀ j, j < n / 2 → w j < 6) : acc 3 n a b z w = ordB w (n / 2) a (n / 2) 0 := by
  have h1 : 1 ≤ n / 2 := by omega
  have h3 : n / 2 ≤ 3 := by omega
  obtain ⟨s1, s2⟩ := st_or2 (a := a) (b := b) (z := z) hw h1 h3 (n / 2) (Nat.le_refl _)
  rw [(ord_cm (w := w) (hf := n / 2) (a := a) (n / 2) 0 (by omega) 0 rfl).1 rfl]
  unfold acc
  rw [show stA 3 n a b z w n = stA 3 n a b z w (n / 2 + n / 2) by rw [show n / 2 + n / 2 = n by omega], s1]
  cases hc : cmO w (n / 2) (n / 2) with
  | none => rfl
  | some q =>
    rcases s2 q hc with rfl | rfl
    · show gud 3 a b (if 0 = 1 then 63 else pkF w (n / 2) / 2 ^ (3 * (n / 2))) = (decide (0 = 1) || decide (a = 0))
      rw [if_neg (by decide)]
      have hz : pkF w (n / 2) / 2 ^ (3 * (n / 2)) = 0 := by
        rcases (show n / 2 = 1 ∨ n / 2 = 2 ∨ n / 2 = 3 by omega) with e | e | e
        · rw [e]
          have c := pk_a _ (hw 0 (by omega))
          have e2 : pkF w 1 = w 0 := by show 0 ||| w 0 * 2 ^ 0 = w 0; simp
          rw [e2]; exact c.1
        · rw [e]
          have a2 := pk_b _ (hw 0 (by omega)) _ (hw 1 (by omega))
          have c := pk_a _ (hw 1 (by omega))
          have e2 : pkF w 2 = w 0 ||| w 1 * 2 ^ 3 := by show (0 ||| w 0 * 2 ^ 0) ||| w 1 * 2 ^ 3 = _; simp
          rw [e2, show 2 ^ (3 * 2) = 2 ^ 3 * 2 ^ 3 by decide, ← Nat.div_div_eq_div_mul, a2.2.2]; exact c.1
        · rw [e]
          have a2 := pk_c _ (hw 0 (by omega)) _ (hw 1 (by omega)) _ (hw 2 (by omega))
          have b2 := pk_b _ (hw 1 (by omega)) _ (hw 2 (by omega))
          have c := pk_a _ (hw 2 (by omega))
          have e2 : pkF w 3 = (w 0 ||| w 1 * 2 ^ 3) ||| w 2 * 2 ^ 6 := by show ((0 ||| w 0 * 2 ^ 0) ||| w 1 * 2 ^ 3) ||| w 2 * 2 ^ 6 = _; simp
          rw [e2, show 2 ^ (3 * 3) = 2 ^ 3 * 2 ^ 3 * 2 ^ 3 by decide, ← Nat.div_div_eq_div_mul, ← Nat.div_div_eq_div_mul, a2.2.2, b2.2.2]; exact c.1
      rw [hz]
      unfold gud
      rw [if_pos rfl]
      simp
    · rfl
