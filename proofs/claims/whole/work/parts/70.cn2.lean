theorem mem_frm {α : Type} {g : Nat → List α} {u : α} : ∀ n v, u ∈ frm g n v → ∃ i, v ≤ i ∧ i < v + n ∧ u ∈ g i
  | 0, _, h => by cases h
  | n + 1, v, h => by
    rcases List.mem_append.mp (show u ∈ g v ++ frm g n (v + 1) from h) with q | q
    · exact ⟨v, Nat.le_refl _, by omega, q⟩
    · obtain ⟨i, h1, h2, h3⟩ := mem_frm n (v + 1) q
      exact ⟨i, by omega, by omega, h3⟩
theorem up6 {ch : Nat → Nat} {x v : Nat} (h : ∀ j, j < x → ch j < 6) (hv : v < 6) : ∀ j, j < x + 1 → va_up ch x v j < 6 := fun j hj => by
  unfold va_up
  split
  · exact hv
  · exact h j (by omega)
theorem sols_lt {ok : Nat → (Nat → Nat) → Bool} : ∀ d x (ch u : Nat → Nat), (∀ j, j < x → ch j < 6) → u ∈ sols ok d x ch → ∀ j, j < x + d → u j < 6
  | 0, x, ch, u, h, hu => by
    have e : u = ch := List.mem_singleton.mp hu
    subst e
    exact h
  | d + 1, x, ch, u, h, hu => by
    rw [sols_s] at hu
    obtain ⟨i, h1, h2, h3⟩ := mem_frm 6 0 hu
    unfold gS at h3
    split at h3
    · intro j hj
      exact sols_lt d (x + 1) _ u (up6 h (by omega)) h3 j (by omega)
    · cases h3
theorem tlL_lt {ok : Nat → (Nat → Nat) → Bool} {W : Nat → Nat} : ∀ d x (u : Nat → Nat), (∀ j, j < x + d → W j < 6) → u ∈ tlL ok W d x → ∀ j, j < x + d → u j < 6
  | 0, _, u, _, hu => by cases hu
  | d + 1, x, u, h, hu => by
    rcases List.mem_append.mp (show u ∈ (if ok x W = true then tlL ok W d (x + 1) else []) ++ frm (gS ok d x W) (6 - (W x + 1)) (W x + 1) from hu) with q | q
    · split at q
      · intro j hj
        exact tlL_lt d (x + 1) u (fun j hj => h j (by omega)) q j (by omega)
      · cases q
    · obtain ⟨i, h1, h2, h3⟩ := mem_frm _ _ q
      unfold gS at h3
      split at h3
      · intro j hj
        exact sols_lt d (x + 1) _ u (up6 (fun j hj => h j (by omega)) (by omega)) h3 j (by omega)
      · cases h3
theorem seL_lt {ok : Nat → (Nat → Nat) → Bool} {tb : Bool} {d x : Nat} {ch u : Nat → Nat} (h : ∀ j, j < x → ch j < 6) (ht : tb = true → ∀ j, j < x + d → ch j < 6) (hu : u ∈ seL ok tb d x ch) : ∀ j, j < x + d → u j < 6 := by
  unfold seL at hu
  cases tb with
  | true => rw [if_pos rfl] at hu; exact tlL_lt d x u (ht rfl) hu
  | false => rw [if_neg (by decide)] at hu; exact sols_lt d x ch u h hu
theorem codF_b {u : Nat → Nat} : ∀ m, m ≤ 6 → (∀ j, j < m → u j < 6) → codF u m < 2 ^ (3 * m)
  | 0, _, _ => by show 0 < 1; decide
  | m + 1, hm, h => by
    have h1 := codF_b m (by omega) (fun j hj => h j (by omega))
    have h2 := h m (by omega)
    show codF u m ||| u m * 2 ^ (3 * m) < 2 ^ (3 * (m + 1))
    refine Nat.or_lt_two_pow (Nat.lt_of_lt_of_le h1 (Nat.pow_le_pow_right (by decide) (by omega))) ?_
    rw [show 3 * (m + 1) = 3 + 3 * m by omega, Nat.pow_add]
    exact Nat.mul_lt_mul_of_pos_right (by omega) (Nat.two_pow_pos _)
/-- nothing found: no way at all -/
theorem hdC_nil {nm : Nat} {L : List (Nat → Nat)} (hn : nm ≤ 6) (h : ∀ u, u ∈ L → ∀ j, j < nm → u j < 6) (e : hdC nm L = -1) : L = [] := by
  cases L with
  | nil => rfl
  | cons u L =>
    exfalso
    have hb := codF_b nm hn (h u List.mem_cons_self)
    have : 2 ^ (3 * nm) ≤ 2 ^ 18 := Nat.pow_le_pow_right (by decide) (by omega)
    exact m1_ne (x := codF u nm) (by omega) e
theorem hdC_app {nm : Nat} {L M : List (Nat → Nat)} (h : ¬ L = []) : hdC nm (L ++ M) = hdC nm L := by
  cases L with
  | nil => exact absurd rfl h
  | cons u L => rfl
theorem codF_up {ch : Nat → Nat} {x v : Nat} : codF ch x ||| v * 2 ^ (3 * x) = codF (va_up ch x v) (x + 1) := by
  show _ = codF (va_up ch x v) x ||| va_up ch x v x * 2 ^ (3 * x)
  rw [va_up_self, codF_dep (ch := va_up ch x v) (ch' := ch) (fun j hj => va_up_ne _ _ (by omega))]
/-- the ways of a value, as the search from the next name finds them -/
theorem vlL_t {ok : Nat → (Nat → Nat) → Bool} {tb : Bool} {d x v : Nat} {ch : Nat → Nat} (h : ok x (va_up ch x v) = true) : vlL ok tb d x ch v = seL ok (tb && decide (v = ch x)) d (x + 1) (va_up ch x v) := by
  unfold vlL seL
  by_cases q : (tb && decide (v = ch x)) = true
  · rw [if_pos q, if_pos q]
    have e : v = ch x := of_decide_eq_true (Bool.and_eq_true _ _ ▸ q).2
    subst e
    rw [up_self] at h ⊢
    rw [if_pos h]
  · rw [if_neg q, if_neg q]
    unfold gS
    rw [if_pos h]
theorem vlL_f {ok : Nat → (Nat → Nat) → Bool} {tb : Bool} {d x v : Nat} {ch : Nat → Nat} (h : ok x (va_up ch x v) = false) : vlL ok tb d x ch v = [] := by
  unfold vlL
  by_cases q : (tb && decide (v = ch x)) = true
  · rw [if_pos q]
    have e : v = ch x := of_decide_eq_true (Bool.and_eq_true _ _ ▸ q).2
    subst e
    rw [up_self] at h
    rw [if_neg (by rw [h]; decide)]
  · rw [if_neg q]
    unfold gS
    rw [if_neg (by rw [h]; decide)]
/-- how many looks a search takes at most -/
def tbd : Nat → Nat
  | 0 => 0
  | d + 1 => 10 + 6 * tbd d
theorem tbd_le : ∀ n, n < 7 → tbd n ≤ 93310 := by decide
theorem frm_skip {α : Type} {g : Nat → List α} {v : Nat} (hv : v < 6) (h : g v = []) : frm g (6 - v) v = frm g (6 - (v + 1)) (v + 1) := by
  rw [show 6 - v = (6 - (v + 1)) + 1 by omega]
  show g v ++ _ = _
  rw [h, List.nil_append]
theorem frm_hd {nm : Nat} {g : Nat → List (Nat → Nat)} {v : Nat} (hv : v < 6) (h : ¬ g v = []) : hdC nm (frm g (6 - v) v) = hdC nm (g v) := by
  rw [show 6 - v = (6 - (v + 1)) + 1 by omega]
  exact hdC_app h
