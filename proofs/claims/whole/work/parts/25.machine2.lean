def endF (bh : Nat → Nat) (k en i : Nat) : Nat → Nat := fun j => if k * 8 ≤ j ∧ j < k * 8 + i then (if en.testBit (j - k * 8) = true then 0 else 1000000) else bh j
theorem endF_0 {bh : Nat → Nat} {k en : Nat} : endF bh k en 0 = bh := by
  funext j
  unfold endF
  rw [if_neg (by omega)]
theorem endF_s {bh : Nat → Nat} {k en i x : Nat} (hx : x = if en.testBit i = true then 0 else 1000000) : va_up (endF bh k en i) (k * 8 + i) x = endF bh k en (i + 1) := by
  funext j
  unfold va_up endF
  by_cases h : j = k * 8 + i
  · subst h
    rw [if_pos rfl, if_pos (by omega), Nat.add_sub_cancel_left, hx]
  · rw [if_neg h]
    by_cases g : k * 8 ≤ j ∧ j < k * 8 + i
    · rw [if_pos g, if_pos (show k * 8 ≤ j ∧ j < k * 8 + (i + 1) by omega)]
    · rw [if_neg g, if_neg (show ¬ (k * 8 ≤ j ∧ j < k * 8 + (i + 1)) by omega)]
theorem endF_le {bh : Nat → Nat} {k en i : Nat} (h : ∀ j, bh j ≤ 1000000) : ∀ j, endF bh k en i j ≤ 1000000 := fun j => by
  unfold endF
  split
  · split <;> omega
  · exact h j
def bhV (sp sa op : Nat → Nat) (k : Nat) (f : Nat → Nat) : Nat → (Nat → Nat) := itr (fun v g => if (op k).testBit v = true then gbF sp k g (sa v) (sa (v + 1) - sa v) else g) (mf f k 6)
def bhP (sp sa op : Nat → Nat) (en n : Nat) (bh : Nat → Nat) : Nat → (Nat → Nat) := itr (fun i g => bhV sp sa op (n - 1 - i) g 6) (endF bh n en 6)
theorem bhV_t {sp sa op f : Nat → Nat} {k i : Nat} (h : (op k).testBit i = true) : gbF sp k (bhV sp sa op k f i) (sa i) (sa (i + 1) - sa i) = bhV sp sa op k f (i + 1) := by
  show _ = (if _ then _ else _)
  rw [if_pos h]; rfl
theorem bhV_f {sp sa op f : Nat → Nat} {k i : Nat} (h : (op k).testBit i = false) : bhV sp sa op k f i = bhV sp sa op k f (i + 1) := by
  show _ = (if _ then _ else _)
  rw [if_neg (by rw [h]; decide)]; rfl
theorem bhV_le {sp sa op f : Nat → Nat} {k : Nat} (h : ∀ j, f j ≤ 1000000) : ∀ i j, bhV sp sa op k f i j ≤ 1000000
  | 0, j => mf_le h j
  | i + 1, j => by
    rcases hb : (op k).testBit i with _ | _
    · rw [← bhV_f hb]; exact bhV_le h i j
    · rw [← bhV_t hb]; exact gbF_le (bhV_le h i) _ j
theorem bhP_le {sp sa op bh : Nat → Nat} {en n : Nat} (h : ∀ j, bh j ≤ 1000000) : ∀ i j, bhP sp sa op en n bh i j ≤ 1000000
  | 0, j => endF_le h j
  | i + 1, j => bhV_le (bhP_le h i) 6 j
def dn (n c : Nat) : Int32 := if c < n then nI (n - 1 - c) else -1
theorem dn_0 {n : Nat} (h : 1 ≤ n) : dn n 0 = nI (n - 1) := by
  unfold dn
  rw [if_pos (by omega)]; rfl
theorem dn_s {n c : Nat} (h : c < n) : nI (n - 1 - c) + Int32.ofInt (-1) = dn n (c + 1) := by
  unfold dn
  by_cases g : c + 1 < n
  · rw [if_pos g, show n - 1 - (c + 1) = n - 1 - c - 1 by omega]
    exact sb_m1 (by omega)
  · rw [if_neg g, show n - 1 - c = 0 by omega]; rfl
theorem dn_lt {n c : Nat} (hn : n < 2147483648) (h : dn n c < 0) : n ≤ c := by
  unfold dn at h
  by_cases g : c < n
  · rw [if_pos g] at h
    exact absurd h (nI_pos (by omega))
  · omega
theorem dn_ge {n c : Nat} (h : ¬ dn n c < 0) : c < n := by
  unfold dn at h
  by_cases g : c < n
  · exact g
  · rw [if_neg g] at h
    exact absurd (by decide) h
theorem dn_eq {n c : Nat} (h : c < n) : nI (n - 1 - c) = dn n c := by
  unfold dn
  rw [if_pos h]
def lcI (x mo : Nat) : Int32 := if x ≤ mo then nI x else -1
theorem lcI_t {x mo : Nat} (h : x ≤ mo) : nI x = lcI x mo := by unfold lcI; rw [if_pos h]
theorem lcI_f {x mo : Nat} (h : mo < x) : -1 = lcI x mo := by unfold lcI; rw [if_neg (by omega)]
theorem lcI_m {x mo : Nat} (hx : x < 2147483648) (h : lcI x mo = -1) : mo < x := by
  unfold lcI at h
  split at h
  · exact absurd h (m1_ne hx)
  · omega
theorem lcI_n {x mo : Nat} (h : ¬ lcI x mo = -1) : x ≤ mo := by
  unfold lcI at h
  split at h
  · assumption
  · exact absurd rfl h
def mkV (sp sa op bh : Nat → Nat) (mo k : Nat) (u : (Nat → Nat) × (Nat → Nat)) : Nat → (Nat → Nat) × (Nat → Nat) := itr (fun v g => if (op k).testBit v = true then ((gaF sp bh k g.1 (sa v) (sa (v + 1) - sa v)).1, if (gaF sp bh k g.1 (sa v) (sa (v + 1) - sa v)).2 ≤ mo then va_up g.2 k (g.2 k ||| 1 * 2 ^ v) else g.2) else g) (mf u.1 (k + 1) 6, u.2)
def mkP (sp sa op bh : Nat → Nat) (mo : Nat) (u : (Nat → Nat) × (Nat → Nat)) : Nat → (Nat → Nat) × (Nat → Nat) := itr (fun k g => mkV sp sa op bh mo k g 6) u
theorem mkV_f {sp sa op bh : Nat → Nat} {mo k i : Nat} {u : (Nat → Nat) × (Nat → Nat)} (h : (op k).testBit i = false) : mkV sp sa op bh mo k u (i + 1) = mkV sp sa op bh mo k u i := by
  show (if _ then _ else _) = _
  rw [if_neg (by rw [h]; decide)]; rfl
theorem mkV_t {sp sa op bh : Nat → Nat} {mo k i : Nat} {u : (Nat → Nat) × (Nat → Nat)} (h : (op k).testBit i = true) : mkV sp sa op bh mo k u (i + 1) = ((gaF sp bh k (mkV sp sa op bh mo k u i).1 (sa i) (sa (i + 1) - sa i)).1, if (gaF sp bh k (mkV sp sa op bh mo k u i).1 (sa i) (sa (i + 1) - sa i)).2 ≤ mo then va_up (mkV sp sa op bh mo k u i).2 k ((mkV sp sa op bh mo k u i).2 k ||| 1 * 2 ^ i) else (mkV sp sa op bh mo k u i).2) := by
  show (if _ then _ else _) = _
  rw [if_pos h]; rfl
theorem mkV_le {sp sa op bh : Nat → Nat} {mo k : Nat} {u : (Nat → Nat) × (Nat → Nat)} (h : ∀ j, u.1 j ≤ 1000000) : ∀ i j, (mkV sp sa op bh mo k u i).1 j ≤ 1000000
  | 0, j => mf_le h j
  | i + 1, j => by
    rcases hb : (op k).testBit i with _ | _
    · rw [mkV_f hb]; exact mkV_le h i j
    · rw [mkV_t hb]; exact (gaF_le (mkV_le h i) _).1 j
theorem mkP_le {sp sa op bh : Nat → Nat} {mo : Nat} {u : (Nat → Nat) × (Nat → Nat)} (h : ∀ j, u.1 j ≤ 1000000) : ∀ i j, (mkP sp sa op bh mo u i).1 j ≤ 1000000
  | 0, j => h j
  | i + 1, j => mkV_le (mkP_le h i) 6 j
def mwS (sp sa op bh : Nat → Nat) (mo k : Nat) (go : (Nat → Nat) → Nat × (Nat → Nat)) (v : Nat) (g : Nat × (Nat → Nat)) : Nat × (Nat → Nat) := if (op k).testBit v = true then (if (gaF sp bh k (mf g.2 (k + 1) 6) (sa v) (sa (v + 1) - sa v)).2 ≤ mo then (g.1 + (go (gaF sp bh k (mf g.2 (k + 1) 6) (sa v) (sa (v + 1) - sa v)).1).1, (go (gaF sp bh k (mf g.2 (k + 1) 6) (sa v) (sa (v + 1) - sa v)).1).2) else (g.1, (gaF sp bh k (mf g.2 (k + 1) 6) (sa v) (sa (v + 1) - sa v)).1)) else g
def mwF (sp sa op bh : Nat → Nat) (mo : Nat) : Nat → Nat → (Nat → Nat) → Nat × (Nat → Nat)
  | 0, _, ah => (1, ah)
  | d + 1, k, ah => itr (mwS sp sa op bh mo k (mwF sp sa op bh mo d (k + 1))) (0, ah) 6
def mwV (sp sa op bh : Nat → Nat) (mo d k : Nat) (ah : Nat → Nat) : Nat → Nat × (Nat → Nat) := itr (mwS sp sa op bh mo k (mwF sp sa op bh mo d (k + 1))) (0, ah)
theorem mwV_f {sp sa op bh ah : Nat → Nat} {mo d k i : Nat} (h : (op k).testBit i = false) : mwV sp sa op bh mo d k ah (i + 1) = mwV sp sa op bh mo d k ah i := by
  show mwS sp sa op bh mo k _ i (mwV sp sa op bh mo d k ah i) = _
  unfold mwS
  rw [if_neg (by rw [h]; decide)]
theorem mwV_a {sp sa op bh ah : Nat → Nat} {mo d k i : Nat} (h : (op k).testBit i = true) (g : mo < (gaF sp bh k (mf (mwV sp sa op bh mo d k ah i).2 (k + 1) 6) (sa i) (sa (i + 1) - sa i)).2) : mwV sp sa op bh mo d k ah (i + 1) = ((mwV sp sa op bh mo d k ah i).1, (gaF sp bh k (mf (mwV sp sa op bh mo d k ah i).2 (k + 1) 6) (sa i) (sa (i + 1) - sa i)).1) := by
  show mwS sp sa op bh mo k _ i (mwV sp sa op bh mo d k ah i) = _
  unfold mwS
  rw [if_pos h, if_neg (Nat.not_le.mpr g)]
theorem mwV_b {sp sa op bh ah : Nat → Nat} {mo d k i : Nat} (h : (op k).testBit i = true) (g : (gaF sp bh k (mf (mwV sp sa op bh mo d k ah i).2 (k + 1) 6) (sa i) (sa (i + 1) - sa i)).2 ≤ mo) : mwV sp sa op bh mo d k ah (i + 1) = ((mwV sp sa op bh mo d k ah i).1 + (mwF sp sa op bh mo d (k + 1) (gaF sp bh k (mf (mwV sp sa op bh mo d k ah i).2 (k + 1) 6) (sa i) (sa (i + 1) - sa i)).1).1, (mwF sp sa op bh mo d (k + 1) (gaF sp bh k (mf (mwV sp sa op bh mo d k ah i).2 (k + 1) 6) (sa i) (sa (i + 1) - sa i)).1).2) := by
  show mwS sp sa op bh mo k _ i (mwV sp sa op bh mo d k ah i) = _
  unfold mwS
  rw [if_pos h, if_pos g]
theorem mw_le {sp sa op bh : Nat → Nat} {mo : Nat} : ∀ (d k : Nat) (ah : Nat → Nat), (∀ j, ah j ≤ 1000000) → (∀ j, (mwF sp sa op bh mo d k ah).2 j ≤ 1000000)
  | 0, _, _, h => h
  | d + 1, k, ah, h => by
    have key : ∀ i j, (mwV sp sa op bh mo d k ah i).2 j ≤ 1000000 := by
      intro i
      induction i with
      | zero => exact h
      | succ i ih =>
        rcases hb : (op k).testBit i with _ | _
        · rw [mwV_f hb]; exact ih
        · rcases Nat.lt_or_ge mo (gaF sp bh k (mf (mwV sp sa op bh mo d k ah i).2 (k + 1) 6) (sa i) (sa (i + 1) - sa i)).2 with g | g
          · rw [mwV_a hb g]; exact (gaF_le (mf_le ih) _).1
          · rw [mwV_b hb g]; exact mw_le d (k + 1) _ (gaF_le (mf_le ih) _).1
    exact key 6
theorem mwV_le {sp sa op bh ah : Nat → Nat} {mo d k : Nat} (h : ∀ j, ah j ≤ 1000000) (i : Nat) : ∀ j, (mwV sp sa op bh mo d k ah i).2 j ≤ 1000000 := by
  induction i with
  | zero => exact h
  | succ i ih =>
    rcases hb : (op k).testBit i with _ | _
    · rw [mwV_f hb]; exact ih
    · rcases Nat.lt_or_ge mo (gaF sp bh k (mf (mwV sp sa op bh mo d k ah i).2 (k + 1) 6) (sa i) (sa (i + 1) - sa i)).2 with g | g
      · rw [mwV_a hb g]; exact (gaF_le (mf_le ih) _).1
      · rw [mwV_b hb g]; exact mw_le d (k + 1) _ (gaF_le (mf_le ih) _).1
theorem mw_cnt {sp sa op bh : Nat → Nat} {mo : Nat} : ∀ (d k : Nat) (ah : Nat → Nat), (mwF sp sa op bh mo d k ah).1 ≤ 6 ^ d
  | 0, _, _ => Nat.le_refl _
  | d + 1, k, ah => by
    have key : ∀ i, (mwV sp sa op bh mo d k ah i).1 ≤ i * 6 ^ d := by
      intro i
      induction i with
      | zero => exact Nat.zero_le _
      | succ i ih =>
        rw [Nat.succ_mul]
        rcases hb : (op k).testBit i with _ | _
        · rw [mwV_f hb]; exact Nat.le_trans ih (Nat.le_add_right _ _)
        · rcases Nat.lt_or_ge mo (gaF sp bh k (mf (mwV sp sa op bh mo d k ah i).2 (k + 1) 6) (sa i) (sa (i + 1) - sa i)).2 with g | g
          · rw [mwV_a hb g]; exact Nat.le_trans ih (Nat.le_add_right _ _)
          · rw [mwV_b hb g]
            have := mw_cnt d (k + 1) (gaF sp bh k (mf (mwV sp sa op bh mo d k ah i).2 (k + 1) 6) (sa i) (sa (i + 1) - sa i)).1 (sp := sp) (sa := sa) (op := op) (bh := bh) (mo := mo)
            show (mwV sp sa op bh mo d k ah i).1 + _ ≤ _
            omega
    have := key 6
    rw [Nat.pow_succ]
    show (mwV sp sa op bh mo d k ah 6).1 ≤ _
    omega
