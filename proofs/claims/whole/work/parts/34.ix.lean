/-- a number that is one of 0 .. m - 1 -/
def ixN (x : Int32) (m : Nat) : Option Nat := if 0 ≤ x.toInt ∧ x.toInt < (m : Int) then some x.toInt.toNat else none
theorem ix_nI {j m : Nat} (hm : m < 2147483648) (h : j < m) : ixN (nI j) m = some j := by
  unfold ixN
  rw [nI_toInt (by omega), if_pos (by omega)]
  rfl
theorem ix_none {x : Int32} {m : Nat} (h : ¬ (0 ≤ x.toInt ∧ x.toInt < (m : Int))) : ixN x m = none := by
  unfold ixN
  rw [if_neg h]
theorem ix_of {x : Int32} {m : Nat} (hm : m < 2147483648) (h : 0 ≤ x.toInt ∧ x.toInt < (m : Int)) : ∃ j, j < m ∧ x = nI j ∧ ixN x m = some j := by
  refine ⟨x.toInt.toNat, by omega, ?_, ?_⟩
  · apply Int32.toInt_inj.mp
    rw [nI_toInt (by omega)]
    omega
  · unfold ixN
    rw [if_pos h]
theorem le_i {x y : Int32} : x ≤ y ↔ x.toInt ≤ y.toInt := Int32.le_iff_toInt_le
theorem lt_i {x y : Int32} : x < y ↔ x.toInt < y.toInt := Int32.lt_iff_toInt_lt
theorem sub1_i {m : Nat} (hm : m < 1073741824) : (nI m - nI 1).toInt = (m : Int) - 1 := pk_sub_toInt hm (by decide)
theorem i0_i : (nI 0).toInt = 0 := by decide
theorem and_t {a b : Prop} [Decidable a] [Decidable b] (h : (decide a && decide b) = true) : a ∧ b := by simpa using h
theorem and_f {a b : Prop} [Decidable a] [Decidable b] (h : (decide a && decide b) = false) : ¬ (a ∧ b) := by
  intro q
  rw [decide_eq_true q.1, decide_eq_true q.2] at h
  exact absurd h (by decide)
theorem ix_t {x : Int32} {m : Nat} (hm : m < 1073741824) (h : (decide (nI 0 ≤ x) && decide (x ≤ nI m - nI 1)) = true) : ∃ j, j < m ∧ x = nI j ∧ ixN x m = some j := by
  have q := and_t h
  rw [le_i, le_i, i0_i, sub1_i hm] at q
  exact ix_of (by omega) (by omega)
theorem ix_f {x : Int32} {m : Nat} (hm : m < 1073741824) (h : (decide (nI 0 ≤ x) && decide (x ≤ nI m - nI 1)) = false) : ixN x m = none := by
  have q := and_f h
  rw [le_i, le_i, i0_i, sub1_i hm] at q
  exact ix_none (by omega)
theorem ik_t {x : Int32} {b : Nat} (hb : b < 1073741824) (h : (decide (nI 0 ≤ x) && decide (x ≤ nI b)) = true) : ∃ j, j < b + 1 ∧ x = nI j ∧ ixN x (b + 1) = some j := by
  have q := and_t h
  rw [le_i, le_i, i0_i, nI_toInt (by omega)] at q
  exact ix_of (by omega) (by omega)
theorem ik_f {x : Int32} {b : Nat} (hb : b < 1073741824) (h : (decide (nI 0 ≤ x) && decide (x ≤ nI b)) = false) : ixN x (b + 1) = none := by
  have q := and_f h
  rw [le_i, le_i, i0_i, nI_toInt (by omega)] at q
  exact ix_none (by omega)
theorem i1_t {x : Int32} {b : Nat} (hb : b < 1073741824) (h : (decide (nI 1 ≤ x) && decide (x ≤ nI b)) = true) : ∃ j, (1 ≤ j ∧ j < b + 1) ∧ x = nI j ∧ ixN x (b + 1) = some j := by
  have q := and_t h
  rw [le_i, le_i, show (nI 1).toInt = 1 by decide, nI_toInt (by omega)] at q
  obtain ⟨j, h1, h2, h3⟩ := ix_of (x := x) (m := b + 1) (by omega) (by omega)
  refine ⟨j, ⟨?_, h1⟩, h2, h3⟩
  rw [h2, nI_toInt (by omega)] at q
  omega
theorem i1_f {x : Int32} {b : Nat} (hb : b < 1073741824) (h : (decide (nI 1 ≤ x) && decide (x ≤ nI b)) = false) : ixN x (b + 1) = none ∨ ixN x (b + 1) = some 0 := by
  have q := and_f h
  rw [le_i, le_i, show (nI 1).toInt = 1 by decide, nI_toInt (by omega)] at q
  by_cases g : 0 ≤ x.toInt ∧ x.toInt < ((b + 1 : Nat) : Int)
  · right
    obtain ⟨j, h1, h2, h3⟩ := ix_of (x := x) (m := b + 1) (by omega) g
    rw [h2, nI_toInt (by omega)] at q
    rw [h3]
    congr 1
    omega
  · exact Or.inl (ix_none g)
theorem tb_t {w i : Nat} (h : w / 2 ^ i % 2 = 1) : w.testBit i = true := by rw [Nat.testBit_eq_decide_div_mod_eq]; exact decide_eq_true h
theorem tb_f {w i : Nat} (h : ¬ w / 2 ^ i % 2 = 1) : w.testBit i = false := by rw [Nat.testBit_eq_decide_div_mod_eq]; exact decide_eq_false h
def okD (sf : Bool) (nv : Nat) : Bool := decide (nv < 6) || (sf && decide (nv = 7))
/-- whether a number tells a word of m places -/
def wordB (x : Int32) (m : Nat) (sf : Bool) : Bool := match ixN x (2 ^ (3 * m)) with
  | none => false
  | some w => allB (fun k => okD sf (dgt w k)) m
theorem wordB_n {x : Int32} {m : Nat} {sf : Bool} (h : ixN x (2 ^ (3 * m)) = none) : wordB x m sf = false := by unfold wordB; rw [h]
theorem wordB_s {x : Int32} {m w : Nat} {sf : Bool} (h : ixN x (2 ^ (3 * m)) = some w) : wordB x m sf = allB (fun k => okD sf (dgt w k)) m := by unfold wordB; rw [h]
theorem p18 {m : Nat} (h : m ≤ 6) : 2 ^ (3 * m) ≤ 262144 := Nat.le_trans (Nat.pow_le_pow_right (by decide) (show 3 * m ≤ 18 by omega)) (by decide)
theorem ix_neg {x : Int32} {m : Nat} (h : x < 0) : ixN x m = none := by
  rw [lt_i] at h
  exact ix_none (by have : (0 : Int32).toInt = 0 := by decide
                    omega)
theorem ix_sh {w m : Nat} (hw : w < 2147483648) (hm : m ≤ 6) (h : ¬ w / 2 ^ (3 * m) = 0) : ixN (nI w) (2 ^ (3 * m)) = none := by
  refine ix_none ?_
  rw [nI_toInt hw]
  intro q
  exact h (Nat.div_eq_of_lt (by omega))
theorem ix_sh0 {w m : Nat} (hm : m ≤ 6) (h : w / 2 ^ (3 * m) = 0) : ixN (nI w) (2 ^ (3 * m)) = some w := by
  have h1 := p18 hm
  have h2 : w < 2 ^ (3 * m) := by
    rcases Nat.lt_or_ge w (2 ^ (3 * m)) with g | g
    · exact g
    · have := Nat.div_pos g (Nat.two_pow_pos _)
      omega
  exact ix_nI (by omega) h2
/-- whether two numbers tell a row of different names -/
def rowN (nm w k : Nat) : Bool := decide (dgt w k < nm) && !(nsF w k).testBit (dgt w k)
def rowB (nm : Nat) (x y : Int32) : Bool := match ixN x 7 with
  | none => false
  | some m => if m = 0 then false else (match ixN y (2 ^ (3 * m)) with
    | none => false
    | some w => allB (rowN nm w) m)
theorem rowB_0 {nm : Nat} {x y : Int32} (h : ixN x 7 = none ∨ ixN x 7 = some 0) : rowB nm x y = false := by
  unfold rowB
  rcases h with h | h <;> rw [h]
  rfl
theorem rowB_1 {nm m : Nat} {x y : Int32} (h : ixN x 7 = some m) (hm : 1 ≤ m) (g : ixN y (2 ^ (3 * m)) = none) : rowB nm x y = false := by
  unfold rowB
  rw [h]
  show (if _ then _ else _) = _
  rw [if_neg (by omega), g]
theorem rowB_2 {nm m w : Nat} {x y : Int32} (h : ixN x 7 = some m) (hm : 1 ≤ m) (g : ixN y (2 ^ (3 * m)) = some w) : rowB nm x y = allB (rowN nm w) m := by
  unfold rowB
  rw [h]
  show (if _ then _ else _) = _
  rw [if_neg (by omega), g]
theorem allB_f {f : Nat → Bool} {i : Nat} : ∀ {m : Nat}, i < m → f i = false → allB f m = false
  | 0, h, _ => absurd h (Nat.not_lt_zero _)
  | m + 1, h, g => by
    show (allB f m && f m) = false
    rcases Nat.lt_or_ge i m with q | q
    · rw [allB_f q g]; rfl
    · rw [show m = i by omega, g, Bool.and_false]
