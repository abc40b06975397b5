/-- whether a value may stand, with what stands below it: as the model asks it, over any allowances -/
def okA (AL : Nat → (Nat → Nat) → Bool) (wi ro dm : Nat → Nat) (cs x : Nat) (ch : Nat → Nat) : Bool := (dm x).testBit (ch x) && !anyB (fun c => decide (mxF ro c (wi c) = x) && !(AL c (chW ro ch c))) cs
/-- the values of name x that go with the first i constraints -/
def smF (AL : Nat → (Nat → Nat) → Bool) (wi ro dm ch : Nat → Nat) (x i : Nat) : Nat := mkM (fun v => (dm x).testBit v && !anyB (fun c => decide (mxF ro c (wi c) = x) && !(AL c (chW ro (va_up ch x v) c))) i)
theorem smF_bit {AL : Nat → (Nat → Nat) → Bool} {wi ro dm ch : Nat → Nat} {x cs v : Nat} : (smF AL wi ro dm ch x cs).testBit v = (decide (v < 6) && okA AL wi ro dm cs x (va_up ch x v)) := by
  unfold smF okA
  rw [mkM_bit, va_up_self]
theorem smF_0 {AL : Nat → (Nat → Nat) → Bool} {wi ro dm ch : Nat → Nat} {x : Nat} (h : dm x < 64) : smF AL wi ro dm ch x 0 = dm x := by
  unfold smF
  exact (mkM_eq h (fun v _ => by show _ = (_ && !false); rw [Bool.not_false, Bool.and_true])).symm
theorem smF_ne {AL : Nat → (Nat → Nat) → Bool} {wi ro dm ch : Nat → Nat} {x i : Nat} (h : ¬ mxF ro i (wi i) = x) : smF AL wi ro dm ch x (i + 1) = smF AL wi ro dm ch x i := by
  unfold smF
  refine mkM_cg (fun v _ => ?_)
  show (_ && !(anyB _ i || (decide (mxF ro i (wi i) = x) && _))) = _
  rw [decide_eq_false h, Bool.false_and, Bool.or_false]
theorem smF_at {AL : Nat → (Nat → Nat) → Bool} {wi ro dm ch : Nat → Nat} {x i v : Nat} (h : mxF ro i (wi i) = x) : (smF AL wi ro dm ch x (i + 1)).testBit v = ((smF AL wi ro dm ch x i).testBit v && AL i (chW ro (va_up ch x v) i)) := by
  unfold smF
  rw [mkM_bit, mkM_bit]
  show (decide (v < 6) && ((dm x).testBit v && !(anyB _ i || (decide (mxF ro i (wi i) = x) && !(AL i (chW ro (va_up ch x v) i)))))) = _
  rw [decide_eq_true h, Bool.true_and, Bool.not_or, Bool.not_not, ← Bool.and_assoc, ← Bool.and_assoc, ← Bool.and_assoc]
theorem smF_z {AL : Nat → (Nat → Nat) → Bool} {wi ro dm ch : Nat → Nat} {x i : Nat} (h : smF AL wi ro dm ch x i = 0) : ∀ d, smF AL wi ro dm ch x (i + d) = 0
  | 0 => h
  | d + 1 => by
    have ih := smF_z h d
    by_cases q : mxF ro (i + d) (wi (i + d)) = x
    · apply Nat.eq_of_testBit_eq
      intro v
      show (smF AL wi ro dm ch x (i + d + 1)).testBit v = _
      rw [smF_at q, ih, Nat.zero_testBit, Bool.false_and]
    · exact (smF_ne q).trans ih
theorem two_bit {a v : Nat} : (2 ^ a).testBit v = true ↔ a = v := by
  rw [Nat.testBit_two_pow, decide_eq_true_iff]
/-- a constraint asked once for all values of the name: the masks -/
theorem ask_at {al : (Nat → Nat) → Bool} {ro ch op : Nat → Nat} {c n x hp set : Nat} (hl : lowF n al) (hr : rowD ro c n) (hhp : hp < n) (hx : ro (6 * c + hp) = x) (hop : ∀ j, j < n → op j = if ro (6 * c + j) = x then set else 2 ^ ch (ro (6 * c + j))) (hch : ∀ j, j < n → ¬ ro (6 * c + j) = x → ch (ro (6 * c + j)) < 6) (v : Nat) : exW op n (fun w => al w && decide (w hp = v)) ↔ v < 6 ∧ set.testBit v = true ∧ al (chW ro (va_up ch x v) c) = true := by
  have hne : ∀ j, j < n → ¬ j = hp → ¬ ro (6 * c + j) = x := fun j hj e q => hr j hj hp hhp e (q.trans hx.symm)
  constructor
  · rintro ⟨w, ho, h⟩
    rw [Bool.and_eq_true, decide_eq_true_iff] at h
    obtain ⟨h1, h2⟩ := h
    have o := ho hp hhp
    rw [hop hp hhp, if_pos hx, h2] at o
    refine ⟨o.1, o.2, ?_⟩
    rw [← h1]
    refine hl _ _ (fun j hj => ?_)
    show va_up ch x v (ro (6 * c + j)) = w j
    by_cases e : j = hp
    · subst e
      rw [hx, va_up_self, h2]
    · rw [va_up_ne _ _ (hne j hj e)]
      have o2 := (ho j hj).2
      rw [hop j hj, if_neg (hne j hj e), two_bit] at o2
      exact o2
  · rintro ⟨hv, hs, h⟩
    refine ⟨chW ro (va_up ch x v) c, fun j hj => ?_, ?_⟩
    · show va_up ch x v (ro (6 * c + j)) < 6 ∧ (op j).testBit (va_up ch x v (ro (6 * c + j))) = true
      rw [hop j hj]
      by_cases e : ro (6 * c + j) = x
      · rw [if_pos e, e, va_up_self]; exact ⟨hv, hs⟩
      · rw [if_neg e, va_up_ne _ _ e]; exact ⟨hch j hj e, two_bit.mpr rfl⟩
    · rw [Bool.and_eq_true, h]
      refine ⟨rfl, ?_⟩
      show decide (va_up ch x v (ro (6 * c + hp)) = v) = true
      rw [hx, va_up_self]
      exact decide_eq_true rfl
theorem exW_or {op : Nat → Nat} {n hp : Nat} {al : (Nat → Nat) → Bool} : exW op n al ↔ ∃ v, exW op n (fun w => al w && decide (w hp = v)) :=
  ⟨fun ⟨w, ho, h⟩ => ⟨w hp, w, ho, by show (al w && decide (w hp = w hp)) = true; rw [h, decide_eq_true rfl]; rfl⟩, fun ⟨v, w, ho, h⟩ => ⟨w, ho, by rw [Bool.and_eq_true] at h; exact h.1⟩⟩
/-- one constraint of name x: it allows, and what it keeps is the next set; or it doesn't, and the set is empty -/
theorem ask_set {AL : Nat → (Nat → Nat) → Bool} {wi ro dm ch op kp : Nat → Nat} {c x hp : Nat} {b : Bool} (hl : lowF (wi c) (AL c)) (hr : rowD ro c (wi c)) (hm : mxF ro c (wi c) = x) (hhp : hp < wi c) (hx : ro (6 * c + hp) = x) (hop : ∀ j, j < wi c → op j = if ro (6 * c + j) = x then smF AL wi ro dm ch x c else 2 ^ ch (ro (6 * c + j))) (hch : ∀ j, j < wi c → ¬ ro (6 * c + j) = x → ch (ro (6 * c + j)) < 6) (hb : b = true ↔ exW op (wi c) (AL c)) (hk : b = true → keM op (wi c) (AL c) kp) : (b = true → kp hp = smF AL wi ro dm ch x (c + 1)) ∧ (b = false → smF AL wi ro dm ch x (c + 1) = 0) := by
  have ha := ask_at hl hr hhp hx hop hch
  constructor
  · intro e
    apply Nat.eq_of_testBit_eq
    intro v
    rw [smF_at hm, Bool.eq_iff_iff, Bool.and_eq_true, ((hk e) hp hhp).2 v, ha v]
    constructor
    · exact fun q => ⟨q.2.1, q.2.2⟩
    · intro q
      refine ⟨?_, q.1, q.2⟩
      have := q.1
      unfold smF at this
      rw [mkM_bit, Bool.and_eq_true, decide_eq_true_iff] at this
      exact this.1
  · intro e
    apply Nat.eq_of_testBit_eq
    intro v
    rw [Nat.zero_testBit, smF_at hm, Bool.eq_false_iff]
    intro q
    rw [Bool.and_eq_true] at q
    have h6 := q.1
    unfold smF at h6
    rw [mkM_bit, Bool.and_eq_true, decide_eq_true_iff] at h6
    have : b = true := hb.mpr (exW_or.mpr ⟨v, (ha v).mpr ⟨h6.1, q.1, q.2⟩⟩)
    rw [e] at this
    cases this
theorem frm_len {α : Type} {g : Nat → List α} : ∀ n v, (frm g n v).length = sm (fun i => (g (v + i)).length) n
  | 0, _ => rfl
  | n + 1, v => by
    show (g v ++ frm g n (v + 1)).length = _
    rw [List.length_append, frm_len n (v + 1)]
    have : ∀ m, (g v).length + sm (fun i => (g (v + 1 + i)).length) m = sm (fun i => (g (v + i)).length) (m + 1) := by
      intro m
      induction m with
      | zero => show (g v).length + 0 = 0 + (g (v + 0)).length; rw [Nat.add_zero, Nat.add_zero, Nat.zero_add]
      | succ m ih =>
        show (g v).length + (sm (fun i => (g (v + 1 + i)).length) m + (g (v + 1 + m)).length) = sm (fun i => (g (v + i)).length) (m + 1) + (g (v + (m + 1))).length
        rw [← ih, show v + 1 + m = v + (m + 1) by omega]
        omega
    exact this n
/-- counting: the sum over the set's values -/
theorem sols_len {ok : Nat → (Nat → Nat) → Bool} {d x S : Nat} {ch : Nat → Nat} (hS : ∀ v, v < 6 → S.testBit v = ok x (va_up ch x v)) : (sols ok (d + 1) x ch).length = sm (fun v => if S.testBit v = true then (sols ok d (x + 1) (va_up ch x v)).length else 0) 6 := by
  rw [sols_s, frm_len]
  refine sm_cg (fun v hv => ?_)
  rw [Nat.zero_add, hS v hv]
  unfold gS
  split <;> rfl
theorem sm_const {S k : Nat} : ∀ n, sm (fun v => if S.testBit v = true then k else 0) n = sm (fun v => S / 2 ^ v % 2) n * k
  | 0 => by show 0 = 0 * k; rw [Nat.zero_mul]
  | n + 1 => by
    show sm _ n + (if S.testBit n = true then k else 0) = (sm _ n + S / 2 ^ n % 2) * k
    rw [sm_const n, Nat.add_mul]
    congr 1
    by_cases h : S.testBit n = true
    · rw [if_pos h, tb_1.mpr h, Nat.one_mul]
    · rw [if_neg h]
      have : S / 2 ^ n % 2 = 0 := by
        have q : ¬ S / 2 ^ n % 2 = 1 := fun q => h (tb_1.mp q)
        omega
      rw [this, Nat.zero_mul]
theorem sols_last {ok : Nat → (Nat → Nat) → Bool} {x S : Nat} {ch : Nat → Nat} (hS : ∀ v, v < 6 → S.testBit v = ok x (va_up ch x v)) : (sols ok 1 x ch).length = pc6 S := by
  rw [sols_len hS, ← pc_sm]
  show sm (fun v => if S.testBit v = true then 1 else 0) 6 = _
  rw [sm_const, Nat.mul_one]
/-- a name that stands in no row changes nothing behind it -/
theorem sols_free {ok : Nat → (Nat → Nat) → Bool} {x : Nat} (hf : ∀ y, x < y → ∀ (ch : Nat → Nat) v, ok y (va_up ch x v) = ok y ch) : ∀ d y, x < y → ∀ (ch : Nat → Nat) v, (sols ok d y (va_up ch x v)).length = (sols ok d y ch).length
  | 0, _, _, _, _ => rfl
  | d + 1, y, hy, ch, v => by
    rw [sols_s, sols_s, frm_len, frm_len]
    refine sm_cg (fun u _ => ?_)
    unfold gS
    rw [up_comm (show ¬ x = y by omega), hf y hy, ]
    split
    · exact sols_free hf d (y + 1) (by omega) (va_up ch y (0 + u)) v
    · rfl
theorem sols_mul {ok : Nat → (Nat → Nat) → Bool} {d x S : Nat} {ch : Nat → Nat} (hS : ∀ v, v < 6 → S.testBit v = ok x (va_up ch x v)) (hf : ∀ y, x < y → ∀ (ch : Nat → Nat) v, ok y (va_up ch x v) = ok y ch) : (sols ok (d + 1) x ch).length = pc6 S * (sols ok d (x + 1) ch).length := by
  rw [sols_len hS, ← pc_sm, ← sm_const]
  exact sm_congr (fun v => by rw [sols_free hf d (x + 1) (by omega)]) 6
theorem okA_free {AL : Nat → (Nat → Nat) → Bool} {wi ro dm : Nat → Nat} {cs x : Nat} (hl : ∀ c, c < cs → lowF (wi c) (AL c)) (hx : ∀ c, c < cs → ∀ j, j < wi c → ¬ ro (6 * c + j) = x) : ∀ y, x < y → ∀ (ch : Nat → Nat) v, okA AL wi ro dm cs y (va_up ch x v) = okA AL wi ro dm cs y ch := fun y hy ch v => by
  unfold okA
  rw [va_up_ne _ _ (by omega)]
  congr 2
  refine anyB_cg (fun c hc => ?_)
  rw [hl c hc (chW ro (va_up ch x v) c) (chW ro ch c) (fun j hj => va_up_ne _ _ (hx c hc j hj))]
theorem okA_dep {AL : Nat → (Nat → Nat) → Bool} {wi ro dm : Nat → Nat} {cs : Nat} (hl : ∀ c, c < cs → lowF (wi c) (AL c)) : okdep (okA AL wi ro dm cs) := fun x ch ch' h => by
  unfold okA
  rw [h x (Nat.le_refl _)]
  congr 2
  refine anyB_cg (fun c hc => ?_)
  by_cases g : mxF ro c (wi c) = x
  · rw [hl c hc (chW ro ch c) (chW ro ch' c) (fun j hj => h _ (by have := mxF_ge (ro := ro) (c := c) hj; omega))]
  · rw [decide_eq_false g]; rfl
theorem sols_le {ok : Nat → (Nat → Nat) → Bool} : ∀ d x ch, (sols ok d x ch).length ≤ 6 ^ d
  | 0, _, _ => Nat.le_refl _
  | d + 1, x, ch => by
    rw [sols_s, frm_len]
    refine Nat.le_trans (sm_le (B := 6 ^ d) (fun v => ?_) 6) (by rw [Nat.pow_succ]; omega)
    unfold gS
    split
    · exact sols_le d (x + 1) _
    · exact Nat.zero_le _
/-- the search behind a floor W, from name x on -/
def tlL (ok : Nat → (Nat → Nat) → Bool) (W : Nat → Nat) : Nat → Nat → List (Nat → Nat)
  | 0, _ => []
  | d + 1, x => (if ok x W = true then tlL ok W d (x + 1) else []) ++ frm (gS ok d x W) (6 - (W x + 1)) (W x + 1)
theorem nxL_down {ok : Nat → (Nat → Nat) → Bool} {nm x : Nat} {W : Nat → Nat} (h : ok x W = false) : ∀ m, x + 1 ≤ m → nxL ok nm W m = nxL ok nm W (x + 1)
  | 0, g => by omega
  | m + 1, g => by
    rcases Nat.lt_or_ge m (x + 1) with q | q
    · rw [show m = x by omega]
    · have e : allB (fun y => ok y W) m = false := allB_f (i := x) (by omega) h
      show (if allB (fun y => ok y W) m = true then _ else _) = _
      rw [if_neg (by rw [e]; decide)]
      exact nxL_down h m q
theorem tl_up {ok : Nat → (Nat → Nat) → Bool} {nm : Nat} {W : Nat → Nat} (hn : 1 ≤ nm) : ∀ d x, x + d = nm → allB (fun y => ok y W) x = true → tlL ok W d x ++ upL ok nm x W = nxL ok nm W nm
  | 0, x, e, h => by
    have e : x = nm := by omega
    subst e
    obtain ⟨m, rfl⟩ : ∃ m, x = m + 1 := ⟨x - 1, by omega⟩
    have h : (allB (fun y => ok y W) m && ok m W) = true := h
    rw [Bool.and_eq_true] at h
    show [] ++ _ = (if allB (fun y => ok y W) m = true then upL ok (m + 1) (m + 1) W else _)
    rw [if_pos h.1, List.nil_append]
  | d + 1, x, e, h => by
    have hu : frm (gS ok d x W) (6 - (W x + 1)) (W x + 1) ++ upL ok nm x W = upL ok nm (x + 1) W := by
      show _ = frm (gS ok (nm - x - 1) x W) (6 - (W x + 1)) (W x + 1) ++ upL ok nm x W
      rw [show nm - x - 1 = d by omega]
    show ((if ok x W = true then tlL ok W d (x + 1) else []) ++ frm (gS ok d x W) (6 - (W x + 1)) (W x + 1)) ++ upL ok nm x W = _
    rw [List.append_assoc, hu]
    by_cases q : ok x W = true
    · rw [if_pos q]
      exact tl_up hn d (x + 1) (by omega) (by show (allB (fun y => ok y W) x && ok x W) = true; rw [h, q]; rfl)
    · rw [if_neg q, List.nil_append]
      have q : ok x W = false := by simpa using q
      rw [nxL_down q nm (by omega)]
      show _ = (if allB (fun y => ok y W) x = true then _ else _)
      rw [if_pos h]
theorem tl_nx {ok : Nat → (Nat → Nat) → Bool} {nm : Nat} {W : Nat → Nat} : tlL ok W nm 0 = nxL ok nm W nm := by
  rcases Nat.eq_zero_or_pos nm with g | g
  · subst g; rfl
  · have := tl_up (ok := ok) (W := W) g nm 0 (by omega) rfl
    rw [← this]
    show _ = _ ++ []
    rw [List.append_nil]
/-- the ways of one value in a search: tight at the floor's own value -/
def vlL (ok : Nat → (Nat → Nat) → Bool) (tb : Bool) (d x : Nat) (ch : Nat → Nat) (v : Nat) : List (Nat → Nat) := if (tb && decide (v = ch x)) = true then (if ok x ch = true then tlL ok ch d (x + 1) else []) else gS ok d x ch v
def seL (ok : Nat → (Nat → Nat) → Bool) (tb : Bool) (d x : Nat) (ch : Nat → Nat) : List (Nat → Nat) := if tb = true then tlL ok ch d x else sols ok d x ch
theorem frm_cgr {α : Type} {g h : Nat → List α} : ∀ n v, (∀ i, v ≤ i → i < v + n → g i = h i) → frm g n v = frm h n v
  | 0, _, _ => rfl
  | n + 1, v, e => by
    show g v ++ frm g n (v + 1) = h v ++ frm h n (v + 1)
    rw [e v (Nat.le_refl _) (by omega), frm_cgr n (v + 1) (fun i h1 h2 => e i (by omega) (by omega))]
theorem seL_s {ok : Nat → (Nat → Nat) → Bool} {tb : Bool} {d x : Nat} {ch : Nat → Nat} (h6 : tb = true → ch x < 6) : seL ok tb (d + 1) x ch = frm (vlL ok tb d x ch) (6 - (if tb = true then ch x else 0)) (if tb = true then ch x else 0) := by
  unfold seL
  cases tb with
  | false =>
    rw [if_neg (by decide), if_neg (by decide), sols_s]
    exact frm_cgr 6 0 (fun i _ _ => by unfold vlL; rw [if_neg (by rw [Bool.false_and]; decide)])
  | true =>
    rw [if_pos rfl, if_pos rfl]
    have := h6 rfl
    rw [show 6 - ch x = (6 - (ch x + 1)) + 1 by omega]
    show _ ++ _ = vlL ok true d x ch (ch x) ++ frm _ _ _
    congr 1
    · unfold vlL
      exact (if_pos (by rw [Bool.true_and]; exact decide_eq_true rfl)).symm
    · exact frm_cgr _ _ (fun i h1 _ => by unfold vlL; rw [if_neg (by rw [Bool.true_and, decide_eq_false (by omega)]; decide)])
