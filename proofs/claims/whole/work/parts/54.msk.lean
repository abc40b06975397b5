theorem mem_vs {d v : Nat} : v ∈ vsF d 0 ↔ v < 6 ∧ d.testBit v = true := by
  unfold vsF
  rw [List.mem_filter, List.mem_range]
  simp
theorem mem_prod {dm ro : Nat → Nat} {k : Nat} : ∀ (i : Nat) (a w : Nat → Nat), w ∈ prodL dm ro k i a ↔ (∀ j, j < i → w j < 6 ∧ (dm (ro (6 * k + j))).testBit (w j) = true) ∧ ∀ j, i ≤ j → w j = a j
  | 0, a, w => by
    show w ∈ [a] ↔ _
    rw [List.mem_singleton]
    constructor
    · intro e
      subst e
      exact ⟨fun j hj => absurd hj (Nat.not_lt_zero _), fun _ _ => rfl⟩
    · intro h
      exact funext (fun j => h.2 j (Nat.zero_le _))
  | i + 1, a, w => by
    show w ∈ (vsF _ 0).flatMap _ ↔ _
    rw [List.mem_flatMap]
    constructor
    · rintro ⟨v, hv, hw⟩
      rw [mem_vs] at hv
      obtain ⟨h1, h2⟩ := (mem_prod i _ w).mp hw
      have hi : w i = v := by rw [h2 i (Nat.le_refl _), va_up_self]
      refine ⟨fun j hj => ?_, fun j hj => ?_⟩
      · by_cases e : j = i
        · subst e; rw [hi]; exact hv
        · exact h1 j (by omega)
      · rw [h2 j (by omega), va_up_ne _ _ (by omega)]
    · rintro ⟨h1, h2⟩
      refine ⟨w i, mem_vs.mpr (h1 i (by omega)), (mem_prod i _ w).mpr ⟨fun j hj => h1 j (by omega), fun j hj => ?_⟩⟩
      by_cases e : j = i
      · subst e; rw [va_up_self]
      · rw [va_up_ne _ _ e]; exact h2 j (by omega)
/-- some open word of m places has it -/
def exW (op : Nat → Nat) (m : Nat) (f : (Nat → Nat) → Bool) : Prop := ∃ w : Nat → Nat, (∀ j, j < m → w j < 6 ∧ (op j).testBit (w j) = true) ∧ f w = true
def lowF (m : Nat) (f : (Nat → Nat) → Bool) : Prop := ∀ w u : Nat → Nat, (∀ j, j < m → w j = u j) → f w = f u
theorem any_ex {dm ro : Nat → Nat} {k m : Nat} {a : Nat → Nat} {f : (Nat → Nat) → Bool} (hf : lowF m f) : (prodL dm ro k m a).any f = true ↔ exW (fun j => dm (ro (6 * k + j))) m f := by
  rw [List.any_eq_true]
  constructor
  · rintro ⟨w, hw, h⟩
    exact ⟨w, ((mem_prod m a w).mp hw).1, h⟩
  · rintro ⟨w, hw, h⟩
    refine ⟨fun j => if j < m then w j else a j, (mem_prod m a _).mpr ⟨fun j hj => ?_, fun j hj => ?_⟩, ?_⟩
    · show (if j < m then w j else a j) < 6 ∧ (dm (ro (6 * k + j))).testBit (if j < m then w j else a j) = true
      rw [if_pos hj]; exact hw j hj
    · show (if j < m then w j else a j) = a j
      rw [if_neg (by omega)]
    · rw [← h]
      refine hf _ _ (fun j hj => ?_)
      show (if j < m then w j else a j) = w j
      rw [if_pos hj]
theorem any_cg2 {dm ro : Nat → Nat} {k m : Nat} {a b : Nat → Nat} {f : (Nat → Nat) → Bool} (hf : lowF m f) : (prodL dm ro k m a).any f = (prodL dm ro k m b).any f := Bool.eq_iff_iff.mpr ((any_ex hf).trans (any_ex hf).symm)
theorem orS_bit {f : Nat → Nat} {v : Nat} : ∀ i, (orS f i).testBit v = anyB (fun x => (f x).testBit v) i
  | 0 => by
    show (0 : Nat).testBit v = false
    exact Nat.zero_testBit v
  | i + 1 => by
    show (orS f i ||| f i).testBit v = (anyB (fun x => (f x).testBit v) i || (f i).testBit v)
    rw [Nat.testBit_or, orS_bit i]
def mkM (b : Nat → Bool) : Nat := orS (fun v => if b v = true then 2 ^ v else 0) 6
theorem mkM_bit {b : Nat → Bool} {v : Nat} : (mkM b).testBit v = (decide (v < 6) && b v) := by
  unfold mkM
  rw [orS_bit]
  have key : ∀ n, anyB (fun x => (if b x = true then 2 ^ x else 0).testBit v) n = (decide (v < n) && b v) := by
    intro n
    induction n with
    | zero => rfl
    | succ n ih =>
      show (anyB _ n || (if b n = true then 2 ^ n else 0).testBit v) = _
      rw [ih]
      by_cases h : v = n
      · subst h
        by_cases g : b v = true
        · rw [if_pos g, Nat.testBit_two_pow_self, Bool.or_true, g, decide_eq_true (by omega)]; rfl
        · rw [if_neg g, Nat.zero_testBit]
          have : b v = false := by simpa using g
          rw [this]; simp
      · have e : ((if b n = true then 2 ^ n else 0).testBit v) = false := by
          split
          · rw [Nat.testBit_two_pow]; exact decide_eq_false (fun q => h q.symm)
          · exact Nat.zero_testBit v
        rw [e, Bool.or_false, decide_eq_decide.mpr (show v < n ↔ v < n + 1 by omega)]
  exact key 6
theorem mkM_lt (b : Nat → Bool) : mkM b < 64 := by
  apply Nat.lt_pow_two_of_testBit (n := 6)
  intro i hi
  rw [mkM_bit, decide_eq_false (by omega)]; rfl
theorem mkM_eq {b : Nat → Bool} {x : Nat} (hx : x < 64) (h : ∀ v, v < 6 → x.testBit v = b v) : x = mkM b := by
  apply Nat.eq_of_testBit_eq
  intro i
  rw [mkM_bit]
  by_cases g : i < 6
  · rw [decide_eq_true g, Bool.true_and]; exact h i g
  · rw [decide_eq_false g, Bool.false_and]
    exact Nat.testBit_lt_two_pow (Nat.lt_of_lt_of_le hx (Nat.pow_le_pow_right (n := 2) (i := 6) (by decide) (by omega)))
theorem mkM_cg {b c : Nat → Bool} (h : ∀ v, v < 6 → b v = c v) : mkM b = mkM c := mkM_eq (mkM_lt b) (fun v hv => by rw [mkM_bit, decide_eq_true hv, Bool.true_and]; exact h v hv)
/-- the values that stand at a place in the allowed words of a list -/
def foM (al : (Nat → Nat) → Bool) (L : List (Nat → Nat)) (j : Nat) : Nat := mkM (fun v => L.any (fun w => al w && decide (w j = v)))
theorem lkS_t {al : (Nat → Nat) → Bool} {m : Nat} {g : Bool × (Nat → Nat)} {w : Nat → Nat} (h : (newB g.2 w m && al w) = true) : lkS al m g w = (true, fdU g.2 w m) := if_pos h
theorem lkS_f {al : (Nat → Nat) → Bool} {m : Nat} {g : Bool × (Nat → Nat)} {w : Nat → Nat} (h : ¬ (newB g.2 w m && al w) = true) : lkS al m g w = g := if_neg h
theorem tb_dm {d v : Nat} : d.testBit v = decide (d / 2 ^ v % 2 = 1) := by
  rw [Nat.testBit_eq_decide_div_mod_eq]
theorem newB_f {f w : Nat → Nat} : ∀ {m : Nat}, newB f w m = false → ∀ j, j < m → (f j).testBit (w j) = true := by
  intro m
  induction m with
  | zero => intro _ j hj; exact absurd hj (Nat.not_lt_zero _)
  | succ m ih =>
    intro h j hj
    have h : (anyB (fun j => decide (f j / 2 ^ w j % 2 = 0)) m || decide (f m / 2 ^ w m % 2 = 0)) = false := h
    rw [Bool.or_eq_false_iff] at h
    by_cases e : j = m
    · subst e
      have := of_decide_eq_false h.2
      rw [tb_dm]
      exact decide_eq_true (by omega)
    · exact ih h.1 j (by omega)
theorem fdU_bit {f w : Nat → Nat} {m j v : Nat} (hj : j < m) : (fdU f w m j).testBit v = ((f j).testBit v || decide (w j = v)) := by
  unfold fdU
  rw [if_pos hj, Nat.one_mul, Nat.testBit_or, Nat.testBit_two_pow]
theorem lk_spec {al : (Nat → Nat) → Bool} {m : Nat} (hm : 1 ≤ m) : ∀ (M : List (Nat → Nat)) (g : Bool × (Nat → Nat)) (P : List (Nat → Nat)), (g.1 = P.any al ∧ ∀ j, j < m → ∀ v, (g.2 j).testBit v = P.any (fun w => al w && decide (w j = v))) → ((M.foldl (lkS al m) g).1 = (P ++ M).any al ∧ ∀ j, j < m → ∀ v, ((M.foldl (lkS al m) g).2 j).testBit v = (P ++ M).any (fun w => al w && decide (w j = v)))
  | [], g, P, h => by rw [List.append_nil]; exact h
  | w :: M, g, P, h => by
    have e : P ++ w :: M = (P ++ [w]) ++ M := by rw [List.append_assoc]; rfl
    rw [e, List.foldl_cons]
    refine lk_spec hm M (lkS al m g w) (P ++ [w]) ?_
    simp only [List.any_append, List.any_cons, List.any_nil, Bool.or_false]
    by_cases q : (newB g.2 w m && al w) = true
    · rw [lkS_t q]
      rw [Bool.and_eq_true] at q
      refine ⟨by rw [q.2, Bool.or_true], fun j hj v => ?_⟩
      rw [q.2, Bool.true_and, fdU_bit hj, h.2 j hj v]
    · rw [lkS_f q]
      by_cases a : al w = true
      · have n : newB g.2 w m = false := by
          rw [a, Bool.and_true] at q
          simpa using q
        have b := newB_f n
        rw [a]
        simp only [Bool.true_and]
        have hP : P.any al = true := by
          have b0 := b 0 (by omega)
          rw [h.2 0 (by omega), List.any_eq_true] at b0
          obtain ⟨u, hu, hq⟩ := b0
          rw [Bool.and_eq_true] at hq
          exact List.any_eq_true.mpr ⟨u, hu, hq.1⟩
        refine ⟨by rw [h.1, hP]; rfl, fun j hj v => ?_⟩
        rw [h.2 j hj v]
        by_cases e : w j = v
        · have bj := b j hj
          rw [h.2 j hj, e] at bj
          rw [bj]; rfl
        · rw [decide_eq_false e, Bool.or_false]
      · have a : al w = false := by simpa using a
        rw [a]
        simp only [Bool.false_and, Bool.or_false]
        exact h
theorem lkF_spec {al : (Nat → Nat) → Bool} {m : Nat} (hm : 1 ≤ m) (L : List (Nat → Nat)) : (lkF al m L).1 = L.any al ∧ ∀ j, j < m → ∀ v, ((lkF al m L).2 j).testBit v = L.any (fun w => al w && decide (w j = v)) :=
  lk_spec hm L (false, fun _ => 0) [] ⟨rfl, fun _ _ v => Nat.zero_testBit v⟩
theorem lowF_and {al : (Nat → Nat) → Bool} {m j v : Nat} (h : lowF m al) (hj : j < m) : lowF m (fun w => al w && decide (w j = v)) := fun w u e => by
  show (al w && decide (w j = v)) = (al u && decide (u j = v))
  rw [h w u e, e j hj]
/-- the model's look at a constraint, over all open words -/
theorem lk_all {dm ro wo : Nat → Nat} {k m : Nat} {al : (Nat → Nat) → Bool} (hm : 1 ≤ m) (h6 : m ≤ 6) (hd : ∀ j, j < m → dm (ro (6 * k + j)) < 64 ∧ ¬ dm (ro (6 * k + j)) = 0) (hl : lowF m al) : (lkF al m (allW dm ro wo k m)).1 = (prodL dm ro k m (fun _ => 0)).any al ∧ ∀ j, j < m → (lkF al m (allW dm ro wo k m)).2 j = foM al (prodL dm ro k m (fun _ => 0)) j := by
  rw [allW_prod h6 hd]
  obtain ⟨h1, h2⟩ := lkF_spec (al := al) hm (prodL dm ro k m (beF dm ro wo k m))
  refine ⟨by rw [h1]; exact any_cg2 hl, fun j hj => ?_⟩
  unfold foM
  apply Nat.eq_of_testBit_eq
  intro v
  rw [h2 j hj v, mkM_bit]
  rw [any_cg2 (lowF_and hl hj) (b := fun _ => 0)]
  by_cases g : v < 6
  · rw [decide_eq_true g, Bool.true_and]
  · rw [decide_eq_false g, Bool.false_and]
    rw [Bool.eq_false_iff]
    intro q
    rw [any_ex (lowF_and hl hj)] at q
    obtain ⟨w, hw, q⟩ := q
    rw [Bool.and_eq_true] at q
    have := of_decide_eq_true q.2
    have := (hw j hj).1
    omega
