theorem low6_up : ∀ d, d < 64 → ∀ a, a < 6 → ¬ d / 2 ^ (a + 1) = 0 → a + 1 + low6 (d / 2 ^ (a + 1)) < 6 := by decide +kernel
theorem low6_6 (w : Nat) : low6 w < 6 := by
  unfold low6
  (repeat' split) <;> omega
theorem beF_6 {dm ro wo : Nat → Nat} {k i : Nat} (h : ∀ j, wo j < 6) : ∀ j, beF dm ro wo k i j < 6 := fun j => by
  unfold beF
  split
  · exact low6_6 _
  · exact h j
def val (w : Nat → Nat) (m : Nat) : Nat := sm (fun j => w j * 6 ^ j) m
theorem val_lt {w : Nat → Nat} (h : ∀ j, w j < 6) : ∀ m, val w m < 6 ^ m
  | 0 => by show 0 < 1; decide
  | m + 1 => by
    have h1 := val_lt h m
    have h2 := h m
    show val w m + w m * 6 ^ m < 6 ^ (m + 1)
    have h3 : w m * 6 ^ m ≤ 5 * 6 ^ m := Nat.mul_le_mul_right _ (by omega)
    rw [Nat.pow_succ]
    omega
theorem val_up {u w : Nat → Nat} {i : Nat} (hs : ∀ j, i < j → w j = u j) (h : val u (i + 1) < val w (i + 1)) : ∀ m, i + 1 ≤ m → val u m < val w m
  | 0, hm => absurd hm (by omega)
  | m + 1, hm => by
    rcases Nat.lt_or_ge i m with g | g
    · have h1 := val_up hs h m (by omega)
      show val u m + u m * 6 ^ m < val w m + w m * 6 ^ m
      rw [hs m g]
      omega
    · rw [show m = i by omega]; exact h
/-- a step of the odometer: the new word's places are values, and its number is greater -/
theorem goF_ok {dm ro wo : Nat → Nat} {k : Nat} (hw : ∀ j, wo j < 6) : ∀ f i, (∀ j, j < i + f → dm (ro (6 * k + j)) < 64) → (∀ j, (goF dm ro wo k f i).2 j < 6) ∧ ((goF dm ro wo k f i).1 = true → val wo (i + f) < val (goF dm ro wo k f i).2 (i + f))
  | 0, i, _ => ⟨beF_6 hw, fun e => by cases e⟩
  | f + 1, i, hd => by
    by_cases h : dm (ro (6 * k + i)) / 2 ^ (wo i + 1) = 0
    · rw [goF_f h]
      have g := goF_ok hw f (i + 1) (fun j hj => hd j (by omega))
      rw [show i + 1 + f = i + (f + 1) by omega] at g
      exact g
    · rw [goF_t h]
      have hl := low6_up _ (hd i (by omega)) (wo i) (hw i) h
      have hn : ∀ j, va_up (beF dm ro wo k i) i (wo i + 1 + low6 (dm (ro (6 * k + i)) / 2 ^ (wo i + 1))) j < 6 := up_lt (beF_6 hw) hl
      refine ⟨hn, fun _ => ?_⟩
      refine val_up (i := i) (fun j hj => ?_) ?_ _ (by omega)
      · show va_up _ _ _ j = wo j
        rw [va_up_ne _ _ (by omega)]
        unfold beF
        rw [if_neg (by omega)]
      · have h1 := val_lt hw i
        show val wo i + wo i * 6 ^ i < val _ i + va_up _ _ _ i * 6 ^ i
        rw [va_up_self]
        have h2 : (wo i + 1) * 6 ^ i ≤ (wo i + 1 + low6 (dm (ro (6 * k + i)) / 2 ^ (wo i + 1))) * 6 ^ i := Nat.mul_le_mul_right _ (by omega)
        rw [Nat.succ_mul] at h2
        omega
/-- the words in the odometer's order -/
def seqF (dm ro : Nat → Nat) (k m : Nat) : Nat → (Nat → Nat) → List (Nat → Nat)
  | 0, _ => []
  | f + 1, wo => wo :: (if (goF dm ro wo k m 0).1 = true then seqF dm ro k m f (goF dm ro wo k m 0).2 else [])
theorem seqF_t {dm ro wo : Nat → Nat} {k m f : Nat} (h : (goF dm ro wo k m 0).1 = true) : seqF dm ro k m (f + 1) wo = wo :: seqF dm ro k m f (goF dm ro wo k m 0).2 := by
  show _ :: (if _ then _ else _) = _
  rw [if_pos h]
theorem seqF_f {dm ro wo : Nat → Nat} {k m f : Nat} (h : (goF dm ro wo k m 0).1 = false) : seqF dm ro k m (f + 1) wo = [wo] := by
  show _ :: (if _ then _ else _) = _
  rw [if_neg (by rw [h]; decide)]
/-- all words that are open, of a row -/
def allW (dm ro wo : Nat → Nat) (k m : Nat) : List (Nat → Nat) := seqF dm ro k m 46657 (beF dm ro wo k m)
/-- where an enumeration stands: it goes on with w, and has had L; or it has had all -/
def odo (dm ro wo : Nat → Nat) (k m fu : Nat) (mr : Bool) (L : List (Nat → Nat)) (w : Nat → Nat) : Prop := (∀ j, w j < 6) ∧ 0 < fu ∧ (mr = true → L ++ seqF dm ro k m fu w = allW dm ro wo k m ∧ 46656 < val w m + fu) ∧ (mr = false → L = allW dm ro wo k m)
theorem odo_0 {dm ro wo w : Nat → Nat} {k m : Nat} {mr : Bool} {L : List (Nat → Nat)} : ¬ odo dm ro wo k m 0 mr L w := fun h => absurd h.2.1 (by omega)
theorem odo_b {dm ro wo : Nat → Nat} {k m : Nat} (hw : ∀ j, wo j < 6) : odo dm ro wo k m 46657 true [] (beF dm ro wo k m) := ⟨beF_6 hw, by decide, fun _ => ⟨rfl, by omega⟩, fun h => by cases h⟩
theorem odo_s {dm ro wo w : Nat → Nat} {k m fu : Nat} {L : List (Nat → Nat)} (hm : m ≤ 6) (hd : ∀ j, j < m → dm (ro (6 * k + j)) < 64) (h : odo dm ro wo k m (fu + 1) true L w) : odo dm ro wo k m fu (goF dm ro w k m 0).1 (L ++ [w]) (goF dm ro w k m 0).2 := by
  obtain ⟨h1, h2, h3, -⟩ := h
  obtain ⟨h3, h4⟩ := h3 rfl
  have hv : val w m < 46656 := Nat.lt_of_lt_of_le (val_lt h1 m) (Nat.le_trans (Nat.pow_le_pow_right (by decide) hm) (by decide))
  have g := goF_ok (dm := dm) (ro := ro) (k := k) h1 m 0 (fun j hj => hd j (by omega))
  refine ⟨g.1, by omega, fun e => ⟨?_, ?_⟩, fun e => ?_⟩
  · rw [seqF_t e] at h3
    rw [List.append_assoc]
    exact h3
  · have := g.2 e
    rw [Nat.zero_add] at this
    omega
  · rw [seqF_f e] at h3
    exact h3
theorem odo_e {dm ro wo w : Nat → Nat} {k m fu : Nat} {L : List (Nat → Nat)} (h : odo dm ro wo k m fu false L w) : L = allW dm ro wo k m := h.2.2.2 rfl
def newB (f w : Nat → Nat) (m : Nat) : Bool := anyB (fun j => decide (f j / 2 ^ w j % 2 = 0)) m
def fdU (f w : Nat → Nat) (i : Nat) : Nat → Nat := fun j => if j < i then f j ||| 1 * 2 ^ w j else f j
theorem fdU_0 {f w : Nat → Nat} : fdU f w 0 = f := by
  funext j
  unfold fdU
  rw [if_neg (by omega)]
theorem fdU_at {f w : Nat → Nat} {i : Nat} : fdU f w i i = f i := by
  unfold fdU
  rw [if_neg (by omega)]
theorem fdU_s {f w : Nat → Nat} {i : Nat} : va_up (fdU f w i) i (fdU f w i i ||| 1 * 2 ^ w i) = fdU f w (i + 1) := by
  funext j
  unfold va_up
  by_cases h : j = i
  · subst h
    rw [if_pos rfl, fdU_at]
    unfold fdU
    rw [if_pos (by omega)]
  · rw [if_neg h]
    unfold fdU
    by_cases g : j < i
    · rw [if_pos g, if_pos (by omega)]
    · rw [if_neg g, if_neg (by omega)]
def lkS (al : (Nat → Nat) → Bool) (m : Nat) (g : Bool × (Nat → Nat)) (w : Nat → Nat) : Bool × (Nat → Nat) := if (newB g.2 w m && al w) = true then (true, fdU g.2 w m) else g
def lkF (al : (Nat → Nat) → Bool) (m : Nat) (L : List (Nat → Nat)) : Bool × (Nat → Nat) := L.foldl (lkS al m) (false, fun _ => 0)
theorem lkF_s {al : (Nat → Nat) → Bool} {m : Nat} {L : List (Nat → Nat)} {w : Nat → Nat} : lkF al m (L ++ [w]) = lkS al m (lkF al m L) w := by
  unfold lkF
  rw [List.foldl_append]
  rfl
theorem fdU_lt {f w : Nat → Nat} {i : Nat} (hf : ∀ j, f j < 64) (hw : ∀ j, w j < 6) : ∀ j, fdU f w i j < 64 := fun j => by
  unfold fdU
  split
  · exact Nat.or_lt_two_pow (n := 6) (hf j) (by rw [Nat.one_mul]; exact Nat.pow_lt_pow_right (a := 2) (by decide) (hw j))
  · exact hf j
