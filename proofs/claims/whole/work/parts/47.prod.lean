/-- the values of a set from v on -/
def vsF (d v : Nat) : List Nat := (List.range 6).filter (fun x => d.testBit x && decide (v ≤ x))
theorem vs_1 : ∀ d, d < 64 → ∀ v, v < 6 → d.testBit v = true → d / 2 ^ (v + 1) = 0 → vsF d v = [v] := by decide +kernel
theorem vs_2 : ∀ d, d < 64 → ∀ v, v < 6 → d.testBit v = true → ¬ d / 2 ^ (v + 1) = 0 → vsF d v = v :: vsF d (v + 1 + low6 (d / 2 ^ (v + 1))) ∧ d.testBit (v + 1 + low6 (d / 2 ^ (v + 1))) = true := by decide +kernel
theorem vs_0 : ∀ d, d < 64 → ¬ d = 0 → vsF d (low6 d) = vsF d 0 ∧ d.testBit (low6 d) = true := by decide +kernel
theorem vs_len (d v : Nat) : (vsF d v).length ≤ 6 := Nat.le_trans (List.length_filter_le _ _) (by simp)
/-- all words, the first place going fastest -/
def prodL (dm ro : Nat → Nat) (k : Nat) : Nat → (Nat → Nat) → List (Nat → Nat)
  | 0, w => [w]
  | i + 1, w => (vsF (dm (ro (6 * k + i))) 0).flatMap (fun v => prodL dm ro k i (va_up w i v))
theorem goF_dep {dm ro w u : Nat → Nat} {k : Nat} : ∀ f i, (∀ j, i ≤ j → w j = u j) → goF dm ro w k f i = goF dm ro u k f i
  | 0, i, h => by
    show (false, beF dm ro w k i) = (false, beF dm ro u k i)
    congr 1
    funext j
    unfold beF
    split
    · rfl
    · exact h j (by omega)
  | f + 1, i, h => by
    have hb : beF dm ro w k i = beF dm ro u k i := by
      funext j
      unfold beF
      split
      · rfl
      · exact h j (by omega)
    show (if _ then _ else _) = (if _ then _ else _)
    rw [h i (Nat.le_refl _), hb, goF_dep f (i + 1) (fun j hj => h j (by omega))]
def contL (dm ro : Nat → Nat) (k m i f : Nat) (w : Nat → Nat) : List (Nat → Nat) := if (goF dm ro w k (m - i) i).1 = true then seqF dm ro k m f (goF dm ro w k (m - i) i).2 else []
theorem up_self {w : Nat → Nat} {i : Nat} : va_up w i (w i) = w := up_id rfl
theorem odo_prod {dm ro : Nat → Nat} {k m : Nat} (hd : ∀ j, j < m → dm (ro (6 * k + j)) < 64 ∧ ¬ dm (ro (6 * k + j)) = 0) : ∀ i, i ≤ m → ∀ (w : Nat → Nat), (∀ j, j < i → w j = low6 (dm (ro (6 * k + j)))) → ∀ f, seqF dm ro k m (f + (prodL dm ro k i w).length) w = prodL dm ro k i w ++ contL dm ro k m i f w
  | 0, _, w, _, f => rfl
  | i + 1, hi, w, hw, f => by
    have hD := hd i (by omega)
    have key : ∀ n (u : Nat → Nat), (∀ j, j < i → u j = low6 (dm (ro (6 * k + j)))) → u i < 6 → (dm (ro (6 * k + i))).testBit (u i) = true → 6 - u i ≤ n → ∀ f, seqF dm ro k m (f + ((vsF (dm (ro (6 * k + i))) (u i)).flatMap (fun v => prodL dm ro k i (va_up u i v))).length) u = (vsF (dm (ro (6 * k + i))) (u i)).flatMap (fun v => prodL dm ro k i (va_up u i v)) ++ contL dm ro k m (i + 1) f u := by
      intro n
      induction n with
      | zero => intro u _ h6 _ hn; omega
      | succ n ih =>
        intro u hu h6 hb hn f
        have hsu : m - i = (m - (i + 1)) + 1 := by omega
        by_cases h0 : dm (ro (6 * k + i)) / 2 ^ (u i + 1) = 0
        · rw [vs_1 _ hD.1 _ h6 hb h0]
          simp only [List.flatMap_cons, List.flatMap_nil, List.append_nil, up_self]
          rw [odo_prod hd i (by omega) u hu f]
          unfold contL
          rw [hsu, goF_f h0]
        · obtain ⟨h1, h2⟩ := vs_2 _ hD.1 _ h6 hb h0
          have h3 := low6_up _ hD.1 _ h6 h0
          rw [h1]
          simp only [List.flatMap_cons, up_self, List.length_append]
          have hg : goF dm ro u k (m - i) i = (true, va_up (beF dm ro u k i) i (u i + 1 + low6 (dm (ro (6 * k + i)) / 2 ^ (u i + 1)))) := by rw [hsu, goF_t h0]
          have hu2i : va_up (beF dm ro u k i) i (u i + 1 + low6 (dm (ro (6 * k + i)) / 2 ^ (u i + 1))) i = u i + 1 + low6 (dm (ro (6 * k + i)) / 2 ^ (u i + 1)) := va_up_self _ _ _
          have hfun : ∀ v, va_up (va_up (beF dm ro u k i) i (u i + 1 + low6 (dm (ro (6 * k + i)) / 2 ^ (u i + 1)))) i v = va_up u i v := fun v => by
            funext j
            unfold va_up
            by_cases hj : j = i
            · rw [if_pos hj, if_pos hj]
            · rw [if_neg hj, if_neg hj, if_neg hj]
              unfold beF
              split
              · next q => exact (hu j q).symm
              · rfl
          have hi2 := ih (va_up (beF dm ro u k i) i (u i + 1 + low6 (dm (ro (6 * k + i)) / 2 ^ (u i + 1)))) (fun j hj => by
            rw [va_up_ne _ _ (by omega)]
            unfold beF
            rw [if_pos hj]) (by rw [hu2i]; exact h3) (by rw [hu2i]; exact h2) (by rw [hu2i]; omega) f
          rw [hu2i] at hi2
          simp only [hfun] at hi2
          rw [show f + ((prodL dm ro k i u).length + ((vsF (dm (ro (6 * k + i))) (u i + 1 + low6 (dm (ro (6 * k + i)) / 2 ^ (u i + 1)))).flatMap (fun v => prodL dm ro k i (va_up u i v))).length) = (f + ((vsF (dm (ro (6 * k + i))) (u i + 1 + low6 (dm (ro (6 * k + i)) / 2 ^ (u i + 1)))).flatMap (fun v => prodL dm ro k i (va_up u i v))).length) + (prodL dm ro k i u).length by omega]
          rw [odo_prod hd i (by omega) u hu]
          rw [List.append_assoc]
          congr 1
          unfold contL
          rw [hg]
          show seqF dm ro k m _ _ = _
          rw [hi2]
          unfold contL
          rw [goF_dep (w := va_up (beF dm ro u k i) i (u i + 1 + low6 (dm (ro (6 * k + i)) / 2 ^ (u i + 1)))) (u := u) (m - (i + 1)) (i + 1) (fun j hj => by
            rw [va_up_ne _ _ (by omega)]
            unfold beF
            rw [if_neg (by omega)])]
    have hwi := hw i (by omega)
    have hv := vs_0 _ hD.1 hD.2
    have h := key 6 w (fun j hj => hw j (by omega)) (by rw [hwi]; exact low6_6 _) (by rw [hwi]; exact hv.2) (by omega) f
    rw [hwi, hv.1] at h
    exact h
theorem prodL_len {dm ro : Nat → Nat} {k : Nat} : ∀ i w, (prodL dm ro k i w).length ≤ 6 ^ i
  | 0, _ => Nat.le_refl _
  | i + 1, w => by
    have key : ∀ (l : List Nat), (l.flatMap (fun v => prodL dm ro k i (va_up w i v))).length ≤ l.length * 6 ^ i := by
      intro l
      induction l with
      | nil => exact Nat.zero_le _
      | cons v l ih =>
        rw [List.flatMap_cons, List.length_append, List.length_cons, Nat.succ_mul]
        have := prodL_len (dm := dm) (ro := ro) (k := k) i (va_up w i v)
        omega
    have h1 := key (vsF (dm (ro (6 * k + i))) 0)
    have h2 := Nat.mul_le_mul_right (6 ^ i) (vs_len (dm (ro (6 * k + i))) 0)
    rw [Nat.pow_succ, Nat.mul_comm (6 ^ i) 6]
    exact Nat.le_trans h1 h2
/-- the odometer's words are all words -/
theorem allW_prod {dm ro wo : Nat → Nat} {k m : Nat} (hm : m ≤ 6) (hd : ∀ j, j < m → dm (ro (6 * k + j)) < 64 ∧ ¬ dm (ro (6 * k + j)) = 0) : allW dm ro wo k m = prodL dm ro k m (beF dm ro wo k m) := by
  have h1 := prodL_len (dm := dm) (ro := ro) (k := k) m (beF dm ro wo k m)
  have h2 : 6 ^ m ≤ 46656 := Nat.le_trans (Nat.pow_le_pow_right (by decide) hm) (by decide)
  have h := odo_prod hd m (Nat.le_refl _) (beF dm ro wo k m) (fun j hj => by unfold beF; rw [if_pos hj]) (46657 - (prodL dm ro k m (beF dm ro wo k m)).length)
  rw [show 46657 - (prodL dm ro k m (beF dm ro wo k m)).length + (prodL dm ro k m (beF dm ro wo k m)).length = 46657 by omega] at h
  unfold allW
  rw [h]
  unfold contL
  rw [Nat.sub_self]
  show _ ++ (if false = true then _ else _) = _
  rw [if_neg (by decide), List.append_nil]
