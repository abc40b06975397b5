/-- a way through places k .. k + d - 1 by the values of w, from a state to a state, and its cost -/
def pth (S : Nat → Nat → Nat → Nat → Prop) (w : Nat → Nat) : Nat → Nat → Nat → Nat → Nat → Prop
  | 0, _, s, s2, c => s = s2 ∧ c = 0
  | d + 1, k, s, s2, c => ∃ t c1 c2, S (w k) s t c1 ∧ pth S w d (k + 1) t s2 c2 ∧ c = c1 + c2
theorem pth_dep {S : Nat → Nat → Nat → Nat → Prop} {w u : Nat → Nat} : ∀ {d k s s2 c : Nat}, (∀ j, k ≤ j → j < k + d → w j = u j) → pth S w d k s s2 c → pth S u d k s s2 c
  | 0, _, _, _, _, _, h => h
  | d + 1, k, s, s2, c, e, ⟨t, c1, c2, h1, h2, h3⟩ => ⟨t, c1, c2, by rw [← e k (Nat.le_refl _) (by omega)]; exact h1, pth_dep (fun j g1 g2 => e j (by omega) (by omega)) h2, h3⟩
theorem pth_mono {S T : Nat → Nat → Nat → Nat → Prop} {w : Nat → Nat} (h : ∀ v s t c, v < 6 → S v s t c → T v s t c) : ∀ {d k s s2 c : Nat}, (∀ j, k ≤ j → j < k + d → w j < 6) → pth S w d k s s2 c → pth T w d k s s2 c
  | 0, _, _, _, _, _, q => q
  | d + 1, k, s, s2, c, hw, ⟨t, c1, c2, h1, h2, h3⟩ => ⟨t, c1, c2, h _ _ _ _ (hw k (Nat.le_refl _) (by omega)) h1, pth_mono h (fun j g1 g2 => hw j (by omega) (by omega)) h2, h3⟩
/-- two ways, one behind the other -/
theorem pth_app {S : Nat → Nat → Nat → Nat → Prop} {w : Nat → Nat} {e : Nat} : ∀ {d k s s2 c : Nat}, pth S w (d + e) k s s2 c ↔ ∃ t c1 c2, pth S w d k s t c1 ∧ pth S w e (k + d) t s2 c2 ∧ c = c1 + c2
  | 0, k, s, s2, c => by
    rw [Nat.zero_add, Nat.add_zero]
    constructor
    · intro h
      exact ⟨s, 0, c, ⟨rfl, rfl⟩, h, by omega⟩
    · rintro ⟨t, c1, c2, ⟨h1, h2⟩, h3, h4⟩
      subst h1
      rw [show c = c2 by omega]; exact h3
  | d + 1, k, s, s2, c => by
    rw [show d + 1 + e = (d + e) + 1 by omega]
    constructor
    · rintro ⟨t, c1, c2, h1, h2, h3⟩
      obtain ⟨t2, c3, c4, g1, g2, g3⟩ := pth_app.mp h2
      exact ⟨t2, c1 + c3, c4, ⟨t, c1, c3, h1, g1, rfl⟩, by rw [show k + (d + 1) = k + 1 + d by omega]; exact g2, by omega⟩
    · rintro ⟨t2, c3, c4, ⟨t, c1, c5, h1, g1, g0⟩, g2, g3⟩
      rw [show k + (d + 1) = k + 1 + d by omega] at g2
      exact ⟨t, c1, c5 + c4, h1, pth_app.mpr ⟨t2, c5, c4, g1, g2, rfl⟩, by omega⟩
theorem pth_1 {S : Nat → Nat → Nat → Nat → Prop} {w : Nat → Nat} {k s s2 c : Nat} : pth S w 1 k s s2 c ↔ S (w k) s s2 c := by
  constructor
  · rintro ⟨t, c1, c2, h1, ⟨h2, h3⟩, h4⟩
    subst h2
    rw [show c = c1 by omega]; exact h1
  · intro h
    exact ⟨s2, c, 0, h, ⟨rfl, rfl⟩, by omega⟩
/-- the least of a set of numbers, if it has one -/
def lst (P : Nat → Prop) (o : Option Nat) : Prop := (∀ x, o = some x → P x ∧ ∀ c, P c → x ≤ c) ∧ (o = none → ∀ c, ¬ P c)
theorem lst_cg {P Q : Nat → Prop} {o : Option Nat} (h : ∀ c, P c ↔ Q c) (g : lst P o) : lst Q o := ⟨fun x e => ⟨(h x).mp (g.1 x e).1, fun c q => (g.1 x e).2 c ((h c).mpr q)⟩, fun e c q => g.2 e c ((h c).mpr q)⟩
theorem lst_uq {P : Nat → Prop} {o q : Option Nat} (h : lst P o) (g : lst P q) : o = q := by
  cases o with
  | none =>
    cases q with
    | none => rfl
    | some y => exact absurd (g.1 y rfl).1 (h.2 rfl y)
  | some x =>
    cases q with
    | none => exact absurd (h.1 x rfl).1 (g.2 rfl x)
    | some y =>
      have h1 := (h.1 x rfl).2 y (g.1 y rfl).1
      have h2 := (g.1 y rfl).2 x (h.1 x rfl).1
      rw [show x = y by omega]
theorem lst_omn {P : Nat → Prop} {o : Option Nat} {y : Nat} (h : lst P o) : lst (fun c => P c ∨ c = y) (some (omn y o)) := by
  refine ⟨fun x e => ?_, fun e => by cases e⟩
  cases e
  cases o with
  | none => exact ⟨Or.inr rfl, fun c q => q.elim (fun q => absurd q (h.2 rfl c)) (fun q => by rw [q]; exact Nat.le_refl _)⟩
  | some z =>
    have hz := h.1 z rfl
    show (P (if y < z then y else z) ∨ (if y < z then y else z) = y) ∧ ∀ c, P c ∨ c = y → (if y < z then y else z) ≤ c
    by_cases q : y < z
    · rw [if_pos q]
      exact ⟨Or.inr rfl, fun c g => g.elim (fun g => by have := hz.2 c g; omega) (fun g => by omega)⟩
    · rw [if_neg q]
      exact ⟨Or.inl hz.1, fun c g => g.elim (fun g => hz.2 c g) (fun g => by omega)⟩
theorem lst_none : lst (fun _ => False) none := ⟨fun x e => (by cases e), fun _ _ h => h⟩
def mSt (sf sv so sc : Nat → Nat) (b m v s t c : Nat) : Prop := ∃ i, i < m ∧ sv (b + i) = v ∧ sf (b + i) = s ∧ so (b + i) = t ∧ sc (b + i) = c
theorem csF_lst {sf sv so sc : Nat → Nat} {b x : Nat} {co : Nat → Option Nat} : ∀ m q, lst (fun c => ∃ i, i < m ∧ sv (b + i) = x ∧ so (b + i) = q ∧ ∃ y, co (sf (b + i)) = some y ∧ c = y + sc (b + i)) (csF sf sv so sc b x co m q)
  | 0, q => lst_cg (fun c => ⟨fun h => h.elim, fun ⟨i, h, _⟩ => absurd h (Nat.not_lt_zero _)⟩) lst_none
  | m + 1, q => by
    have ih := csF_lst (sf := sf) (sv := sv) (so := so) (sc := sc) (b := b) (x := x) (co := co) m
    show lst _ (csS sf sv so sc b x co m (csF sf sv so sc b x co m) q)
    have old : ∀ (h : ∀ c, ¬ (sv (b + m) = x ∧ so (b + m) = q ∧ ∃ y, co (sf (b + m)) = some y ∧ c = y + sc (b + m))), lst (fun c => ∃ i, i < m + 1 ∧ sv (b + i) = x ∧ so (b + i) = q ∧ ∃ y, co (sf (b + i)) = some y ∧ c = y + sc (b + i)) (csF sf sv so sc b x co m q) := fun h => by
      refine lst_cg (fun c => ⟨fun ⟨i, hi, g⟩ => ⟨i, by omega, g⟩, fun ⟨i, hi, g⟩ => ?_⟩) (ih q)
      by_cases e : i = m
      · subst e; exact absurd g (h c)
      · exact ⟨i, by omega, g⟩
    unfold csS
    by_cases h1 : sv (b + m) = x
    · rw [if_pos h1]
      cases hc : co (sf (b + m)) with
      | none => exact old (fun c g => by obtain ⟨-, -, y, e, -⟩ := g; rw [hc] at e; cases e)
      | some y =>
        show lst _ (va_up _ _ _ q)
        by_cases h2 : so (b + m) = q
        · rw [h2, va_up_self]
          refine lst_cg (fun c => ?_) (lst_omn (ih q))
          constructor
          · rintro (⟨i, hi, g⟩ | g)
            · exact ⟨i, by omega, g⟩
            · exact ⟨m, by omega, h1, h2, y, hc, g⟩
          · rintro ⟨i, hi, g1, g2, z, g3, g4⟩
            by_cases e : i = m
            · subst e
              rw [hc] at g3
              cases g3
              exact Or.inr g4
            · exact Or.inl ⟨i, by omega, g1, g2, z, g3, g4⟩
        · rw [va_up_ne _ _ (fun e => h2 e.symm)]
          exact old (fun c g => h2 g.2.1)
    · rw [if_neg h1]
      exact old (fun c g => h1 g.1)
theorem coP_lst {sf sv so sc w : Nat → Nat} {b m : Nat} : ∀ k q, lst (fun c => pth (mSt sf sv so sc b m) w k 0 0 q c) (coP sf sv so sc w b m k q)
  | 0, q => by
    show lst _ (if q = 0 then some 0 else none)
    by_cases h : q = 0
    · rw [if_pos h]
      exact ⟨fun x e => by cases e; exact ⟨⟨h.symm, rfl⟩, fun c _ => Nat.zero_le _⟩, fun e => by cases e⟩
    · rw [if_neg h]
      exact ⟨fun x e => (by cases e), fun _ c g => h g.1.symm⟩
  | k + 1, q => by
    show lst _ (csF sf sv so sc b (w k) (coP sf sv so sc w b m k) m q)
    have h := csF_lst (sf := sf) (sv := sv) (so := so) (sc := sc) (b := b) (x := w k) (co := coP sf sv so sc w b m k) m q
    have ih := coP_lst (sf := sf) (sv := sv) (so := so) (sc := sc) (w := w) (b := b) (m := m) k
    -- the least of sums is the sum with the least
    refine ⟨fun x e => ?_, fun e c g => ?_⟩
    · obtain ⟨⟨i, hi, g1, g2, y, g3, g4⟩, hmin⟩ := h.1 x e
      have hy := (ih (sf (b + i))).1 y g3
      refine ⟨pth_app.mpr ⟨sf (b + i), y, sc (b + i), hy.1, ?_, g4⟩, fun c g => ?_⟩
      · rw [Nat.zero_add, pth_1]; exact ⟨i, hi, g1, rfl, g2, rfl⟩
      · obtain ⟨t, c1, c2, p1, p2, p3⟩ := pth_app.mp g
        rw [Nat.zero_add, pth_1] at p2
        obtain ⟨j, hj, q1, q2, q3, q4⟩ := p2
        cases hc : coP sf sv so sc w b m k t with
        | none => exact absurd p1 ((ih t).2 hc c1)
        | some z =>
          have hz := ((ih t).1 z hc).2 c1 p1
          have := hmin (z + sc (b + j)) ⟨j, hj, q1, q3, z, by rw [q2]; exact hc, rfl⟩
          omega
    · obtain ⟨t, c1, c2, p1, p2, p3⟩ := pth_app.mp g
      rw [Nat.zero_add, pth_1] at p2
      obtain ⟨j, hj, q1, q2, q3, q4⟩ := p2
      cases hc : coP sf sv so sc w b m k t with
      | none => exact absurd p1 ((ih t).2 hc c1)
      | some z => exact h.2 e (z + sc (b + j)) ⟨j, hj, q1, q3, z, by rw [q2]; exact hc, rfl⟩
theorem tb_1 {d v : Nat} : d / 2 ^ v % 2 = 1 ↔ d.testBit v = true := by
  rw [tb_dm, decide_eq_true_iff]
theorem bsF_lst {en : Nat} {co : Nat → Option Nat} : ∀ n, lst (fun c => ∃ q, q < n ∧ en.testBit q = true ∧ co q = some c) (bsF en co n)
  | 0 => lst_cg (fun c => ⟨fun h => h.elim, fun ⟨i, h, _⟩ => absurd h (Nat.not_lt_zero _)⟩) lst_none
  | n + 1 => by
    have ih := bsF_lst (en := en) (co := co) n
    show lst _ (bsS en co n (bsF en co n))
    have old : ∀ (h : ∀ c, ¬ (en.testBit n = true ∧ co n = some c)), lst (fun c => ∃ q, q < n + 1 ∧ en.testBit q = true ∧ co q = some c) (bsF en co n) := fun h => by
      refine lst_cg (fun c => ⟨fun ⟨i, hi, g⟩ => ⟨i, by omega, g⟩, fun ⟨i, hi, g⟩ => ?_⟩) ih
      by_cases e : i = n
      · subst e; exact absurd g (h c)
      · exact ⟨i, by omega, g⟩
    unfold bsS
    by_cases h1 : en / 2 ^ n % 2 = 1
    · rw [if_pos h1]
      have h1 := tb_1.mp h1
      cases hc : co n with
      | none => exact old (fun c g => by rw [hc] at g; cases g.2)
      | some y =>
        refine lst_cg (fun c => ?_) (lst_omn ih)
        constructor
        · rintro (⟨i, hi, g⟩ | g)
          · exact ⟨i, by omega, g⟩
          · exact ⟨n, by omega, h1, by rw [hc, g]⟩
        · rintro ⟨i, hi, g1, g2⟩
          by_cases e : i = n
          · subst e
            rw [hc] at g2
            cases g2
            exact Or.inr rfl
          · exact Or.inl ⟨i, by omega, g1, g2⟩
    · rw [if_neg h1]
      exact old (fun c g => h1 (tb_1.mpr g.1))
/-- what a word costs: the least way from state 0 to an end -/
def wyC (S : Nat → Nat → Nat → Nat → Prop) (en n : Nat) (w : Nat → Nat) (c : Nat) : Prop := ∃ q, q < 6 ∧ en.testBit q = true ∧ pth S w n 0 0 q c
theorem cost_lst {sf sv so sc w : Nat → Nat} {b m en n : Nat} : lst (wyC (mSt sf sv so sc b m) en n w) (bsF en (coP sf sv so sc w b m n) 6) := by
  have h := bsF_lst (en := en) (co := coP sf sv so sc w b m n) 6
  have ih := coP_lst (sf := sf) (sv := sv) (so := so) (sc := sc) (w := w) (b := b) (m := m) n
  refine ⟨fun x e => ?_, fun e c g => ?_⟩
  · obtain ⟨⟨q, hq, g1, g2⟩, hmin⟩ := h.1 x e
    refine ⟨⟨q, hq, g1, ((ih q).1 x g2).1⟩, ?_⟩
    rintro c ⟨t, ht, p1, p2⟩
    cases hc : coP sf sv so sc w b m n t with
    | none => exact absurd p2 ((ih t).2 hc c)
    | some z =>
      have := ((ih t).1 z hc).2 c p2
      have := hmin z ⟨t, ht, p1, hc⟩
      omega
  · obtain ⟨t, ht, p1, p2⟩ := g
    cases hc : coP sf sv so sc w b m n t with
    | none => exact absurd p2 ((ih t).2 hc c)
    | some z => exact h.2 e z ⟨t, ht, p1, hc⟩
def macA (S : Nat → Nat → Nat → Nat → Prop) (en mo n : Nat) (w : Nat → Nat) : Prop := ∃ c, c ≤ mo ∧ wyC S en n w c
def macO (mo : Nat) (o : Option Nat) : Bool := match o with
  | none => false
  | some y => decide (y ≤ mo)
theorem macO_iff {P : Nat → Prop} {o : Option Nat} {mo : Nat} (h : lst P o) : macO mo o = true ↔ ∃ c, c ≤ mo ∧ P c := by
  cases o with
  | none => exact ⟨fun g => (by cases g), fun ⟨c, _, g⟩ => absurd g (h.2 rfl c)⟩
  | some y =>
    have hy := h.1 y rfl
    show decide (y ≤ mo) = true ↔ _
    rw [decide_eq_true_iff]
    exact ⟨fun g => ⟨y, g, hy.1⟩, fun ⟨c, g, q⟩ => Nat.le_trans (hy.2 c q) g⟩
