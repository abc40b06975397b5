def sm (f : Nat → Nat) : Nat → Nat
  | 0 => 0
  | i + 1 => sm f i + f i
def orS (f : Nat → Nat) : Nat → Nat
  | 0 => 0
  | i + 1 => orS f i ||| f i
theorem sm_le {f : Nat → Nat} {B : Nat} (h : ∀ v, f v ≤ B) : ∀ i, sm f i ≤ i * B
  | 0 => Nat.zero_le _
  | i + 1 => by
    have h1 := sm_le h i
    have h2 := h i
    show sm f i + f i ≤ _
    rw [Nat.succ_mul]
    omega
def aft (kk n a b z x k v : Nat) : Option Nat := if kk = 2 then aEl n x k v else if kk = 3 then aOr n x k v else if kk = 4 then aSu b x v else if kk = 5 then aTy z x v else aFi a b x v
def gud (kk a b x : Nat) : Bool := if kk = 3 then (decide (x = 63) || !decide (a ≠ 0)) else if kk = 4 ∨ kk = 5 then (decide (a ≤ x) && decide (x ≤ b)) else true
def xt (kk a b z : Nat) : List Value := if kk = 3 then [.int (bI (decide (a ≠ 0)))] else if kk = 4 then [.int (nI a), .int (nI b)] else if kk = 5 then [.int (nI z), .int (nI a), .int (nI b)] else if kk = 6 then [.int (nI a), .int (nI b)] else []
def okc (kk n a b z : Nat) : Prop := (2 ≤ kk ∧ kk ≤ 6) ∧ (1 ≤ n ∧ n ≤ 6) ∧ (kk = 2 → 3 ≤ n) ∧ a ≤ 30 ∧ b ≤ 30 ∧ z < 6 ∧ (kk = 6 → a < 6 ∧ b < 6)
def xok (kk k x : Nat) : Prop := x < 512 ∧ (kk = 5 → x ≤ k)
theorem okc_ci {kk n a b z : Nat} (h : okc kk n a b z) : isC (kk + 3) := ⟨by have := h.1; omega, by have := h.1; omega⟩
theorem okc_kk {kk n a b z : Nat} (h : okc kk n a b z) : kk = 2 ∨ kk = 3 ∨ kk = 4 ∨ kk = 5 ∨ kk = 6 := by have := h.1; omega
theorem aft_ok {kk n a b z x k v y : Nat} (h : okc kk n a b z) (hx : xok kk k x) (hk : k < n) (hv : v < 6) (hq : aft kk n a b z x k v = some y) : xok kk (k + 1) y := by
  obtain ⟨⟨h1, h2⟩, ⟨h3, h4⟩, h5, h6, h7, h8, h9⟩ := h
  obtain ⟨hx1, hx2⟩ := hx
  rcases (show kk = 2 ∨ kk = 3 ∨ kk = 4 ∨ kk = 5 ∨ kk = 6 by omega) with rfl | rfl | rfl | rfl | rfl
  · have hq : aEl n x k v = some y := hq
    refine ⟨?_, fun q => absurd q (by decide)⟩
    unfold aEl at hq
    (repeat' split at hq) <;> cases hq <;> first | omega | exact Nat.or_lt_two_pow (n := 9) hx1 (by omega)
  · have hq : aOr n x k v = some y := hq
    refine ⟨?_, fun q => absurd q (by decide)⟩
    unfold aOr at hq
    split at hq
    · next hk2 =>
      cases hq
      have hk3 : k < 3 := by omega
      refine Nat.or_lt_two_pow (n := 9) hx1 ?_
      rcases (show k = 0 ∨ k = 1 ∨ k = 2 by omega) with rfl | rfl | rfl <;> (simp; omega)
    · (repeat' split at hq) <;> cases hq <;> omega
  · have hq : aSu b x v = some y := hq
    refine ⟨?_, fun q => absurd q (by decide)⟩
    unfold aSu at hq
    split at hq <;> cases hq
    omega
  · have hq : aTy z x v = some y := hq
    have := hx2 rfl
    unfold aTy at hq
    split at hq <;> (cases hq; exact ⟨by omega, fun _ => by omega⟩)
  · have hq : aFi a b x v = some y := hq
    refine ⟨?_, fun q => absurd q (by decide)⟩
    unfold aFi at hq
    (repeat' split at hq) <;> cases hq <;> omega
/-- the next state by a value that stands in the set at a place -/
def nodeV (op : Nat → Nat) (kk n a b z k x v : Nat) : Option Nat := if (op k).testBit v = true then aft kk n a b z x k v else none
def wcnt (op : Nat → Nat) (kk n a b z : Nat) : Nat → Nat → Nat → Nat
  | 0, _, x => if gud kk a b x = true then 1 else 0
  | d + 1, k, x => sm (fun v => (nodeV op kk n a b z k x v).elim 0 (fun y => wcnt op kk n a b z d (k + 1) y)) 6
def kmk (op : Nat → Nat) (kk n a b z : Nat) : Nat → Nat → Nat → Nat → Nat
  | 0, _, _, _ => 0
  | d + 1, k, x, j => orS (fun v => (nodeV op kk n a b z k x v).elim 0 (fun y => kmk op kk n a b z d (k + 1) y j ||| (if j = k ∧ 0 < wcnt op kk n a b z d (k + 1) y then 2 ^ v else 0))) 6
def cnV (op : Nat → Nat) (kk n a b z d k x v : Nat) : Nat := (nodeV op kk n a b z k x v).elim 0 (fun y => wcnt op kk n a b z d (k + 1) y)
def cbV (op : Nat → Nat) (kk n a b z d k x v j : Nat) : Nat := (nodeV op kk n a b z k x v).elim 0 (fun y => kmk op kk n a b z d (k + 1) y j ||| (if j = k ∧ 0 < wcnt op kk n a b z d (k + 1) y then 2 ^ v else 0))
theorem wcnt_s (op : Nat → Nat) (kk n a b z d k x : Nat) : wcnt op kk n a b z (d + 1) k x = sm (cnV op kk n a b z d k x) 6 := rfl
theorem wcnt_le (op : Nat → Nat) (kk n a b z : Nat) : ∀ d k x, wcnt op kk n a b z d k x ≤ 6 ^ d
  | 0, _, x => by
    show (if gud kk a b x = true then 1 else 0) ≤ 1
    split <;> omega
  | d + 1, k, x => by
    refine Nat.le_trans (sm_le (B := 6 ^ d) (fun v => ?_) 6) (by rw [Nat.pow_succ]; omega)
    cases nodeV op kk n a b z k x v with
    | none => exact Nat.zero_le _
    | some y => exact wcnt_le op kk n a b z d (k + 1) y
theorem wcnt_lt {op : Nat → Nat} {kk n a b z d k x : Nat} (hd : d ≤ 6) : wcnt op kk n a b z d k x < 2147483648 :=
  Nat.lt_of_le_of_lt (wcnt_le op kk n a b z d k x) (Nat.lt_of_le_of_lt (Nat.pow_le_pow_right (by decide) hd) (by decide))
theorem sm6_lt {op : Nat → Nat} {kk n a b z d k x i : Nat} (hd : d ≤ 5) (hi : i ≤ 6) : sm (cnV op kk n a b z d k x) i < 2147483648 := by
  have h := sm_le (f := cnV op kk n a b z d k x) (B := 7776) (fun v => by
    unfold cnV
    cases nodeV op kk n a b z k x v with
    | none => exact Nat.zero_le _
    | some y => exact Nat.le_trans (wcnt_le op kk n a b z d (k + 1) y) (Nat.le_trans (Nat.pow_le_pow_right (by decide) hd) (by decide))) i
  omega
/-- what is remembered since tm is right, and kept -/
def memo (op : Nat → Nat) (kk n a b z tm : Nat) (wd ks kp : Nat → Nat) : Prop := ∀ k x, k < n → x < 64 → ks (k * 64 + x) = tm → wd (k * 64 + x) = wcnt op kk n a b z (n - k) k x ∧ ∀ j, kmk op kk n a b z (n - k) k x j ||| kp j = kp j
def kpI (kp : Nat → Nat) (f : Nat → Nat → Nat) (i : Nat) : Nat → Nat := fun j => kp j ||| orS (fun v => f v j) i
def kpK (kp : Nat → Nat) (f : Nat → Nat) : Nat → Nat := fun j => kp j ||| f j
theorem or_abs {x y w : Nat} (h : x ||| y = y) : x ||| (y ||| w) = y ||| w := by rw [← Nat.or_assoc, h]
theorem memo_mono {op : Nat → Nat} {kk n a b z tm : Nat} {wd ks kp : Nat → Nat} (f : Nat → Nat) (h : memo op kk n a b z tm wd ks kp) : memo op kk n a b z tm wd ks (kpK kp f) := fun k x hk hx e =>
  ⟨(h k x hk hx e).1, fun j => or_abs ((h k x hk hx e).2 j)⟩
theorem kpI_0 {kp : Nat → Nat} {f : Nat → Nat → Nat} : kpI kp f 0 = kp := by
  funext j
  exact Nat.or_zero _
theorem kpI_6 {op kp : Nat → Nat} {kk n a b z d k x : Nat} : kpI kp (cbV op kk n a b z d k x) 6 = kpK kp (kmk op kk n a b z (d + 1) k x) := rfl
theorem kpI_none {op kp : Nat → Nat} {kk n a b z d k x i : Nat} (h : nodeV op kk n a b z k x i = none) : kpI kp (cbV op kk n a b z d k x) i = kpI kp (cbV op kk n a b z d k x) (i + 1) := by
  funext j
  have e0 : cbV op kk n a b z d k x i j = 0 := by unfold cbV; rw [h]; rfl
  show kp j ||| orS (fun v => cbV op kk n a b z d k x v j) i = kp j ||| (orS (fun v => cbV op kk n a b z d k x v j) i ||| cbV op kk n a b z d k x i j)
  rw [e0, Nat.or_zero]
theorem sm_none {op : Nat → Nat} {kk n a b z d k x i : Nat} (h : nodeV op kk n a b z k x i = none) : sm (cnV op kk n a b z d k x) (i + 1) = sm (cnV op kk n a b z d k x) i := by
  show _ + cnV op kk n a b z d k x i = _
  unfold cnV
  rw [h]
  rfl
theorem sm_some {op : Nat → Nat} {kk n a b z d k x i y : Nat} (h : nodeV op kk n a b z k x i = some y) : sm (cnV op kk n a b z d k x) (i + 1) = sm (cnV op kk n a b z d k x) i + wcnt op kk n a b z d (k + 1) y := by
  show _ + cnV op kk n a b z d k x i = _
  unfold cnV
  rw [h]
  rfl
theorem kpI_s0 {op kp : Nat → Nat} {kk n a b z d k x i y : Nat} (h : nodeV op kk n a b z k x i = some y) (h0 : wcnt op kk n a b z d (k + 1) y = 0) : kpK (kpI kp (cbV op kk n a b z d k x) i) (kmk op kk n a b z d (k + 1) y) = kpI kp (cbV op kk n a b z d k x) (i + 1) := by
  funext j
  show (kp j ||| _) ||| _ = kp j ||| (_ ||| cbV op kk n a b z d k x i j)
  rw [Nat.or_assoc]
  congr 2
  unfold cbV
  rw [h]
  show _ = _ ||| _
  rw [if_neg (by omega), Nat.or_zero]
theorem kpI_s1 {op kp : Nat → Nat} {kk n a b z d k x i y : Nat} (h : nodeV op kk n a b z k x i = some y) (h0 : 0 < wcnt op kk n a b z d (k + 1) y) : va_up (kpK (kpI kp (cbV op kk n a b z d k x) i) (kmk op kk n a b z d (k + 1) y)) k (kpK (kpI kp (cbV op kk n a b z d k x) i) (kmk op kk n a b z d (k + 1) y) k ||| 1 * 2 ^ i) = kpI kp (cbV op kk n a b z d k x) (i + 1) := by
  funext j
  unfold va_up
  have key : ∀ q, cbV op kk n a b z d k x i q = kmk op kk n a b z d (k + 1) y q ||| (if q = k then 2 ^ i else 0) := fun q => by
    unfold cbV
    rw [h]
    show _ ||| _ = _
    congr 1
    by_cases hq : q = k
    · rw [if_pos ⟨hq, h0⟩, if_pos hq]
    · rw [if_neg (fun g => hq g.1), if_neg hq]
  show _ = kp j ||| (_ ||| cbV op kk n a b z d k x i j)
  rw [key]
  split
  · next e => subst e; rw [Nat.one_mul]; unfold kpK kpI; rw [Nat.or_assoc, Nat.or_assoc]
  · next e => rw [Nat.or_zero]; unfold kpK kpI; rw [Nat.or_assoc]
theorem memo_put {op : Nat → Nat} {kk n a b z tm k x : Nat} {wd ks kp : Nat → Nat} (hk : k < n) (h : memo op kk n a b z tm wd ks kp) (hs : ∀ j, kmk op kk n a b z (n - k) k x j ||| kp j = kp j) : memo op kk n a b z tm (if x < 64 then (va_up wd (k * 64 + x) (wcnt op kk n a b z (n - k) k x), va_up ks (k * 64 + x) tm) else (wd, ks)).1 (if x < 64 then (va_up wd (k * 64 + x) (wcnt op kk n a b z (n - k) k x), va_up ks (k * 64 + x) tm) else (wd, ks)).2 kp := by
  split
  · next hx =>
    intro k2 x2 hk2 hx2 e
    by_cases hq : k2 * 64 + x2 = k * 64 + x
    · have e1 : k2 = k := by omega
      have e2 : x2 = x := by omega
      subst e1 e2
      refine ⟨?_, hs⟩
      show va_up _ _ _ _ = _
      rw [va_up_self]
    · have e3 : va_up ks (k * 64 + x) tm (k2 * 64 + x2) = tm := e
      rw [va_up_ne _ _ hq] at e3
      have g := h k2 x2 hk2 hx2 e3
      refine ⟨?_, g.2⟩
      show va_up _ _ _ _ = _
      rw [va_up_ne _ _ hq]
      exact g.1
  · exact h
theorem or_self2 (x y : Nat) : x ||| (y ||| x) = y ||| x := by rw [Nat.or_comm y x, ← Nat.or_assoc, Nat.or_self]
