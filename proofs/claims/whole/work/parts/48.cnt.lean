theorem sm_0 : ∀ i, sm (fun _ => 0) i = 0
  | 0 => rfl
  | i + 1 => by
    show sm (fun _ => 0) i + 0 = 0
    rw [sm_0 i]
theorem sm_add {f g : Nat → Nat} : ∀ i, sm (fun v => f v + g v) i = sm f i + sm g i
  | 0 => rfl
  | i + 1 => by
    show sm (fun v => f v + g v) i + (f i + g i) = (sm f i + f i) + (sm g i + g i)
    rw [sm_add i]
    omega
theorem sm_swap {f : Nat → Nat → Nat} (m : Nat) : ∀ n, sm (fun v => sm (fun u => f u v) n) m = sm (fun u => sm (fun v => f u v) m) n
  | 0 => sm_0 m
  | n + 1 => by
    show sm (fun v => sm (fun u => f u v) n + f n v) m = sm (fun u => sm (fun v => f u v) m) n + sm (fun v => f n v) m
    rw [sm_add, sm_swap m n]
/-- the sum over the values of a set -/
def sv6 (d : Nat) (f : Nat → Nat) : Nat := sm (fun v => if d.testBit v = true then f v else 0) 6
theorem sv6_cg {d : Nat} {f g : Nat → Nat} (h : ∀ v, f v = g v) : sv6 d f = sv6 d g := by
  unfold sv6
  exact sm_congr (fun v => by rw [h v]) 6
theorem sv6_swap {d e : Nat} {f : Nat → Nat → Nat} : sv6 d (fun v => sv6 e (fun u => f u v)) = sv6 e (fun u => sv6 d (fun v => f u v)) := by
  unfold sv6
  have h1 : sm (fun v => if d.testBit v = true then sm (fun u => if e.testBit u = true then f u v else 0) 6 else 0) 6 = sm (fun v => sm (fun u => if d.testBit v = true ∧ e.testBit u = true then f u v else 0) 6) 6 := by
    refine sm_congr (fun v => ?_) 6
    by_cases hv : d.testBit v = true
    · rw [if_pos hv]
      exact sm_congr (fun u => by
        by_cases hu : e.testBit u = true
        · rw [if_pos hu, if_pos ⟨hv, hu⟩]
        · rw [if_neg hu, if_neg (fun q => hu q.2)]) 6
    · rw [if_neg hv]
      exact (sm_0 6).symm.trans (sm_congr (fun u => by rw [if_neg (fun q => hv q.1)]) 6)
  have h2 : sm (fun u => if e.testBit u = true then sm (fun v => if d.testBit v = true then f u v else 0) 6 else 0) 6 = sm (fun u => sm (fun v => if d.testBit v = true ∧ e.testBit u = true then f u v else 0) 6) 6 := by
    refine sm_congr (fun u => ?_) 6
    by_cases hu : e.testBit u = true
    · rw [if_pos hu]
      exact sm_congr (fun v => by
        by_cases hv : d.testBit v = true
        · rw [if_pos hv, if_pos ⟨hv, hu⟩]
        · rw [if_neg hv, if_neg (fun q => hv q.1)]) 6
    · rw [if_neg hu]
      exact (sm_0 6).symm.trans (sm_congr (fun v => by rw [if_neg (fun q => hu q.2)]) 6)
  rw [h1, h2]
  exact sm_swap 6 6
/-- the sum of F over all words: place k goes slowest -/
def cR (op : Nat → Nat) : Nat → Nat → ((Nat → Nat) → Nat) → (Nat → Nat) → Nat
  | 0, _, F, w => F w
  | d + 1, k, F, w => sv6 (op k) (fun v => cR op d (k + 1) F (va_up w k v))
/-- the same, place i - 1 going slowest -/
def cT (op : Nat → Nat) : Nat → ((Nat → Nat) → Nat) → (Nat → Nat) → Nat
  | 0, F, w => F w
  | i + 1, F, w => sv6 (op i) (fun v => cT op i F (va_up w i v))
theorem cR_cg {op : Nat → Nat} {F G : (Nat → Nat) → Nat} (h : ∀ w, F w = G w) : ∀ d k w, cR op d k F w = cR op d k G w
  | 0, _, w => h w
  | d + 1, k, w => sv6_cg (fun v => cR_cg h d (k + 1) (va_up w k v))
theorem cR_last {op : Nat → Nat} {F : (Nat → Nat) → Nat} : ∀ d k w, cR op (d + 1) k F w = cR op d k (fun u => sv6 (op (k + d)) (fun v => F (va_up u (k + d) v))) w
  | 0, _, _ => rfl
  | d + 1, k, w => by
    show sv6 (op k) (fun v => cR op (d + 1) (k + 1) F (va_up w k v)) = sv6 (op k) (fun v => cR op d (k + 1) _ (va_up w k v))
    refine sv6_cg (fun v => ?_)
    rw [cR_last d (k + 1), show k + 1 + d = k + (d + 1) by omega]
theorem up_comm {w : Nat → Nat} {i k x y : Nat} (h : ¬ i = k) : va_up (va_up w i x) k y = va_up (va_up w k y) i x := by
  funext j
  unfold va_up
  by_cases h1 : j = k
  · rw [if_pos h1, if_neg (by omega), if_pos h1]
  · rw [if_neg h1]
    by_cases h2 : j = i
    · rw [if_pos h2, if_pos h2]
    · rw [if_neg h2, if_neg h2, if_neg h1]
theorem cR_in {op : Nat → Nat} {e i : Nat} {F : (Nat → Nat) → Nat} : ∀ d k w, k + d ≤ i → sv6 e (fun v => cR op d k F (va_up w i v)) = cR op d k (fun u => sv6 e (fun v => F (va_up u i v))) w
  | 0, _, _, _ => rfl
  | d + 1, k, w, h => by
    show sv6 e (fun v => sv6 (op k) (fun y => cR op d (k + 1) F (va_up (va_up w i v) k y))) = sv6 (op k) (fun y => cR op d (k + 1) _ (va_up w k y))
    rw [sv6_swap (f := fun y v => cR op d (k + 1) F (va_up (va_up w i v) k y))]
    refine sv6_cg (fun y => ?_)
    rw [← cR_in d (k + 1) (va_up w k y) (by omega)]
    exact sv6_cg (fun v => by rw [up_comm (by omega)])
theorem cT_cR {op : Nat → Nat} {F : (Nat → Nat) → Nat} : ∀ i w, cT op i F w = cR op i 0 F w
  | 0, _ => rfl
  | i + 1, w => by
    rw [cR_last i 0 w, Nat.zero_add, ← cR_in i 0 w (by omega)]
    exact sv6_cg (fun v => cT_cR i (va_up w i v))
theorem ctF_app {al : (Nat → Nat) → Bool} (L M : List (Nat → Nat)) : ctF al (L ++ M) = ctF al L + ctF al M := by
  unfold ctF
  rw [List.foldl_append]
  generalize L.foldl (fun q w => if al w = true then q + 1 else q) 0 = z
  induction M generalizing z with
  | nil => rfl
  | cons w M ih =>
    rw [List.foldl_cons, List.foldl_cons, ih, ih (if al w = true then 0 + 1 else 0)]
    split <;> omega
theorem ctF_flat {al : (Nat → Nat) → Bool} {g : Nat → List (Nat → Nat)} (p : Nat → Bool) : ∀ n, ctF al (((List.range n).filter p).flatMap g) = sm (fun v => if p v = true then ctF al (g v) else 0) n
  | 0 => rfl
  | n + 1 => by
    rw [List.range_succ, List.filter_append, List.flatMap_append, ctF_app, ctF_flat p n]
    show _ = sm (fun v => if p v = true then ctF al (g v) else 0) n + (if p n = true then ctF al (g n) else 0)
    congr 1
    by_cases h : p n = true
    · rw [if_pos h]
      simp [h]
    · rw [if_neg h]
      simp [h]
      rfl
/-- how many words are allowed: the odometer's count is the sum, the first place going slowest -/
theorem ctF_prod {dm ro : Nat → Nat} {k : Nat} {al : (Nat → Nat) → Bool} : ∀ i w, ctF al (prodL dm ro k i w) = cT (fun j => dm (ro (6 * k + j))) i (fun u => if al u = true then 1 else 0) w
  | 0, w => by
    show (if al w = true then 0 + 1 else 0) = _
    rfl
  | i + 1, w => by
    show ctF al ((vsF (dm (ro (6 * k + i))) 0).flatMap (fun v => prodL dm ro k i (va_up w i v))) = sv6 (dm (ro (6 * k + i))) (fun v => cT _ i _ (va_up w i v))
    unfold vsF
    rw [ctF_flat]
    unfold sv6
    refine sm_congr (fun v => ?_) 6
    rw [ctF_prod i (va_up w i v)]
    simp
theorem ctF_cR {dm ro wo : Nat → Nat} {k m : Nat} {al : (Nat → Nat) → Bool} (hm : m ≤ 6) (hd : ∀ j, j < m → dm (ro (6 * k + j)) < 64 ∧ ¬ dm (ro (6 * k + j)) = 0) : ctF al (allW dm ro wo k m) = cR (fun j => dm (ro (6 * k + j))) m 0 (fun u => if al u = true then 1 else 0) (beF dm ro wo k m) := by
  rw [allW_prod hm hd, ctF_prod, cT_cR]
