/-- the state behind k places of a word -/
def stA (kk n a b z : Nat) (w : Nat → Nat) : Nat → Option Nat
  | 0 => some 0
  | k + 1 => (stA kk n a b z w k).bind (fun x => aft kk n a b z x k (w k))
def acc (kk n a b z : Nat) (w : Nat → Nat) : Bool := (stA kk n a b z w n).elim false (fun x => gud kk a b x)
theorem stA_dep {kk n a b z : Nat} {w u : Nat → Nat} : ∀ {k : Nat}, (∀ j, j < k → w j = u j) → stA kk n a b z w k = stA kk n a b z u k
  | 0, _ => rfl
  | k + 1, h => by
    show (stA kk n a b z w k).bind _ = (stA kk n a b z u k).bind _
    rw [stA_dep (fun j hj => h j (by omega)), h k (by omega)]
theorem wcnt_cR {op : Nat → Nat} {kk n a b z : Nat} : ∀ d k w, k + d = n → cR op d k (fun u => if acc kk n a b z u = true then 1 else 0) w = (stA kk n a b z w k).elim 0 (fun x => wcnt op kk n a b z d k x)
  | 0, k, w, h => by
    have h : k = n := by omega
    subst h
    show (if acc kk k a b z w = true then 1 else 0) = _
    unfold acc
    cases stA kk k a b z w k with
    | none => rfl
    | some x => rfl
  | d + 1, k, w, h => by
    have h1 : ∀ v, cR op d (k + 1) (fun u => if acc kk n a b z u = true then 1 else 0) (va_up w k v) = ((stA kk n a b z w k).bind (fun x => aft kk n a b z x k v)).elim 0 (fun y => wcnt op kk n a b z d (k + 1) y) := fun v => by
      rw [wcnt_cR d (k + 1) (va_up w k v) (by omega)]
      congr 1
      show (stA kk n a b z (va_up w k v) k).bind _ = _
      rw [stA_dep (u := w) (fun j hj => va_up_ne _ _ (by omega)), va_up_self]
    show sv6 (op k) (fun v => cR op d (k + 1) _ (va_up w k v)) = _
    rw [sv6_cg h1]
    cases stA kk n a b z w k with
    | none =>
      show sm (fun v => if (op k).testBit v = true then 0 else 0) 6 = 0
      exact (sm_congr (fun v => by split <;> rfl) 6).trans (sm_0 6)
    | some x =>
      show sm (fun v => if (op k).testBit v = true then (aft kk n a b z x k v).elim 0 (fun y => wcnt op kk n a b z d (k + 1) y) else 0) 6 = sm (fun v => (nodeV op kk n a b z k x v).elim 0 (fun y => wcnt op kk n a b z d (k + 1) y)) 6
      refine sm_congr (fun v => ?_) 6
      unfold nodeV
      split <;> rfl
theorem st_sum {n a b z : Nat} {w : Nat → Nat} : ∀ k, stA 4 n a b z w k = if sm w k ≤ b then some (sm w k) else none
  | 0 => by
    show some 0 = (if 0 ≤ b then some 0 else none)
    rw [if_pos (Nat.zero_le _)]
  | k + 1 => by
    show (stA 4 n a b z w k).bind (fun x => aSu b x (w k)) = (if sm w k + w k ≤ b then some (sm w k + w k) else none)
    rw [st_sum k]
    by_cases h : sm w k ≤ b
    · rw [if_pos h]
      show (if b < sm w k + w k then none else some (sm w k + w k)) = _
      by_cases g : sm w k + w k ≤ b
      · rw [if_pos g, if_neg (by omega)]
      · rw [if_neg g, if_pos (by omega)]
    · rw [if_neg h, if_neg (by omega)]; rfl
theorem acc_sum {n a b z : Nat} {w : Nat → Nat} : acc 4 n a b z w = (decide (a ≤ sm w n) && decide (sm w n ≤ b)) := by
  unfold acc
  rw [st_sum]
  by_cases h : sm w n ≤ b
  · rw [if_pos h]; rfl
  · rw [if_neg h, decide_eq_false h, Bool.and_false]; rfl
theorem st_tal {n a b z : Nat} {w : Nat → Nat} : ∀ k, stA 5 n a b z w k = some (sm (tlF w z) k)
  | 0 => rfl
  | k + 1 => by
    show (stA 5 n a b z w k).bind (fun x => aTy z x (w k)) = some (sm (tlF w z) k + (if w k = z then 1 else 0))
    rw [st_tal k]
    show (if w k = z then some (sm (tlF w z) k + 1) else some (sm (tlF w z) k)) = _
    split <;> rfl
theorem acc_tal {n a b z : Nat} {w : Nat → Nat} : acc 5 n a b z w = (decide (a ≤ sm (tlF w z) n) && decide (sm (tlF w z) n ≤ b)) := by
  unfold acc
  rw [st_tal]
  rfl
theorem st_fir {n a b z : Nat} {w : Nat → Nat} : ∀ k, stA 6 n a b z w k = if allB (firB w a b) k = true then some (if anyB (fun i => decide (w i = a)) k = true then 1 else 0) else none
  | 0 => rfl
  | k + 1 => by
    show (stA 6 n a b z w k).bind (fun x => aFi a b x (w k)) = (if (allB (firB w a b) k && firB w a b k) = true then some (if (anyB (fun i => decide (w i = a)) k || decide (w k = a)) = true then 1 else 0) else none)
    rw [st_fir k]
    unfold firB aFi
    by_cases h : allB (fun j => !decide (w j = b) || anyB (fun i => decide (w i = a)) j) k = true
    · rw [if_pos h, h]
      rcases hs : anyB (fun i => decide (w i = a)) k with _ | _ <;> by_cases h1 : w k = b <;> by_cases h2 : w k = a <;> simp_all
    · rw [if_neg h]
      have h : allB (fun j => !decide (w j = b) || anyB (fun i => decide (w i = a)) j) k = false := by simpa using h
      rw [h]
      rfl
theorem acc_fir {n a b z : Nat} {w : Nat → Nat} : acc 6 n a b z w = allB (firB w a b) n := by
  unfold acc
  rw [st_fir]
  rcases h : allB (firB w a b) n with _ | _
  · rfl
  · rfl
