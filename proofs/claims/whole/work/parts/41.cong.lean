theorem allB_cg {f g : Nat → Bool} : ∀ {m : Nat}, (∀ i, i < m → f i = g i) → allB f m = allB g m
  | 0, _ => rfl
  | m + 1, h => by
    show (allB f m && f m) = (allB g m && g m)
    rw [allB_cg (fun i hi => h i (by omega)), h m (by omega)]
theorem anyB_cg {f g : Nat → Bool} : ∀ {m : Nat}, (∀ i, i < m → f i = g i) → anyB f m = anyB g m
  | 0, _ => rfl
  | m + 1, h => by
    show (anyB f m || f m) = (anyB g m || g m)
    rw [anyB_cg (fun i hi => h i (by omega)), h m (by omega)]
theorem sm_cg {f g : Nat → Nat} : ∀ {m : Nat}, (∀ i, i < m → f i = g i) → sm f m = sm g m
  | 0, _ => rfl
  | m + 1, h => by
    show sm f m + f m = sm g m + g m
    rw [sm_cg (fun i hi => h i (by omega)), h m (by omega)]
theorem coP_cg {sf sv so sc w u : Nat → Nat} {b m : Nat} : ∀ {k : Nat}, (∀ i, i < k → w i = u i) → coP sf sv so sc w b m k = coP sf sv so sc u b m k
  | 0, _ => rfl
  | k + 1, h => by
    show csF sf sv so sc b (w k) (coP sf sv so sc w b m k) m = csF sf sv so sc b (u k) (coP sf sv so sc u b m k) m
    rw [coP_cg (fun i hi => h i (by omega)), h k (by omega)]
theorem ordB_cg {w u : Nat → Nat} {hf a m : Nat} (hm : hf * 2 ≤ m) (h : ∀ i, i < m → w i = u i) : ∀ f i, i + f = hf → ordB w hf a f i = ordB u hf a f i
  | 0, _, _ => rfl
  | f + 1, i, e => by
    show (if _ then _ else _) = (if _ then _ else _)
    rw [h i (by omega), h (hf + i) (by omega), ordB_cg hm h f (i + 1) (by omega)]
/-- whether a word is allowed depends on its row's places alone -/
theorem alF_cg {ki wi lw hg wh mn tu sf sv so sc w u : Nat → Nat} {k : Nat} (h3 : ki k = 2 → 3 ≤ wi k) (h : ∀ j, j < wi k → w j = u j) : alF ki wi lw hg wh mn tu sf sv so sc k w = alF ki wi lw hg wh mn tu sf sv so sc k u := by
  unfold alF alw
  have e1 : anyB (tupA tu w k (wi k)) (mn k) = anyB (tupA tu u k (wi k)) (mn k) := anyB_cg (fun q _ => allB_cg (fun i hi => by unfold tupB; rw [h i hi]))
  have e2 : coP sf sv so sc w (30 * k) (mn k) (wi k) = coP sf sv so sc u (30 * k) (mn k) (wi k) := coP_cg h
  have e3 : ordB w (wi k / 2) (lw k) (wi k / 2) 0 = ordB u (wi k / 2) (lw k) (wi k / 2) 0 := ordB_cg (m := wi k) (by omega) h _ _ (by omega)
  have e4 : sm w (wi k) = sm u (wi k) := sm_cg h
  have e5 : sm (tlF w (wh k)) (wi k) = sm (tlF u (wh k)) (wi k) := sm_cg (fun i hi => by unfold tlF; rw [h i hi])
  have e6 : allB (firB w (lw k) (hg k)) (wi k) = allB (firB u (lw k) (hg k)) (wi k) := allB_cg (fun i hi => by
    unfold firB
    rw [h i hi, anyB_cg (g := fun j => decide (u j = lw k)) (fun j hj => by rw [h j (by omega)])])
  rw [e1, e2, e3, e4, e5, e6]
  by_cases k0 : ki k = 0
  · rw [if_pos k0, if_pos k0]
  · rw [if_neg k0, if_neg k0]
    by_cases k1 : ki k = 1
    · rw [if_pos k1, if_pos k1]
    · rw [if_neg k1, if_neg k1]
      by_cases k2 : ki k = 2
      · rw [if_pos k2, if_pos k2]
        have := h3 k2
        rw [h 0 (by omega), h 1 (by omega)]
        by_cases g : u 0 < wi k - 2
        · rw [h (2 + u 0) (by omega)]
        · rw [decide_eq_false g]; rfl
      · rw [if_neg k2, if_neg k2]
/-- the greatest name of a row -/
def mxF (ro : Nat → Nat) (c : Nat) : Nat → Nat
  | 0 => 0
  | i + 1 => if mxF ro c i < ro (6 * c + i) then ro (6 * c + i) else mxF ro c i
theorem mxF_ge {ro : Nat → Nat} {c j : Nat} : ∀ {i : Nat}, j < i → ro (6 * c + j) ≤ mxF ro c i
  | 0, h => absurd h (Nat.not_lt_zero _)
  | i + 1, h => by
    show _ ≤ (if _ then _ else _)
    rcases Nat.lt_or_ge j i with g | g
    · have := mxF_ge (ro := ro) (c := c) g
      split <;> omega
    · rw [show j = i by omega]
      split <;> omega
theorem mxF_lt {ro : Nat → Nat} {c : Nat} (h : ∀ j, ro j < 6) : ∀ i, mxF ro c i < 6
  | 0 => by show 0 < 6; decide
  | i + 1 => by
    have := mxF_lt h (c := c) i
    have := h (6 * c + i)
    show (if _ then _ else _) < 6
    split <;> omega
def chW (ro ch : Nat → Nat) (c : Nat) : Nat → Nat := fun j => ch (ro (6 * c + j))
def chU (ro ch wo : Nat → Nat) (c i : Nat) : Nat → Nat := fun j => if j < i then ch (ro (6 * c + j)) else wo j
theorem chU_0 {ro ch wo : Nat → Nat} {c : Nat} : chU ro ch wo c 0 = wo := by
  funext j
  unfold chU
  rw [if_neg (by omega)]
theorem chU_s {ro ch wo : Nat → Nat} {c i : Nat} : va_up (chU ro ch wo c i) i (ch (ro (6 * c + i))) = chU ro ch wo c (i + 1) := by
  funext j
  unfold va_up chU
  by_cases h : j = i
  · subst h
    rw [if_pos rfl, if_pos (by omega)]
  · rw [if_neg h]
    by_cases g : j < i
    · rw [if_pos g, if_pos (by omega)]
    · rw [if_neg g, if_neg (by omega)]
