def orV (fi op : Nat → Nat) (k : Nat) : Nat → Nat := orS (fun v => if (op k).testBit v = true then fi (k * 6 + v) else 0)
def otF (fi op : Nat → Nat) (tu : Nat) : Nat → Nat
  | 0 => 2 ^ tu - 1
  | k + 1 => otF fi op tu k &&& orV fi op k 6
theorem orV_t {fi op : Nat → Nat} {k i : Nat} (h : (op k).testBit i = true) : orV fi op k (i + 1) = orV fi op k i ||| fi (k * 6 + i) := by
  show orS _ i ||| (if _ then _ else _) = _
  rw [if_pos h]; rfl
theorem orV_f {fi op : Nat → Nat} {k i : Nat} (h : (op k).testBit i = false) : orV fi op k (i + 1) = orV fi op k i := by
  show orS _ i ||| (if _ then _ else _) = _
  rw [if_neg (by rw [h]; decide), Nat.or_zero]; rfl
theorem otF_lt {fi op : Nat → Nat} {tu : Nat} (ht : tu ≤ 20) : ∀ k, otF fi op tu k < 1048576
  | 0 => by
    have h1 : 2 ^ tu ≤ 2 ^ 20 := Nat.pow_le_pow_right (by decide) ht
    have h2 := Nat.two_pow_pos tu
    show 2 ^ tu - 1 < _
    omega
  | k + 1 => Nat.lt_of_le_of_lt Nat.and_le_left (otF_lt ht k)
/-- what a place's values bring in -/
def kfS (fi op : Nat → Nat) (t k : Nat) : Nat → Nat := orS (fun v => if (op k).testBit v = true ∧ ¬ fi (k * 6 + v) &&& t = 0 then 2 ^ v else 0)
def kT (kp fi op : Nat → Nat) (t k i : Nat) : Nat → Nat := fun j => if j < k then kp j ||| kfS fi op t j 6 else if j = k then kp j ||| kfS fi op t j i else kp j
theorem kT_0 {kp fi op : Nat → Nat} {t : Nat} : kT kp fi op t 0 0 = kp := by
  funext j
  unfold kT
  rw [if_neg (by omega)]
  split
  · exact Nat.or_zero _
  · rfl
theorem kT_n {kp fi op : Nat → Nat} {t k : Nat} : kT kp fi op t k 6 = kT kp fi op t (k + 1) 0 := by
  funext j
  unfold kT
  by_cases h1 : j < k
  · rw [if_pos h1, if_pos (by omega)]
  · by_cases h2 : j = k
    · rw [if_neg h1, if_pos h2, if_pos (by omega)]
    · rw [if_neg h1, if_neg h2, if_neg (by omega)]
      split
      · exact (Nat.or_zero _).symm
      · rfl
theorem kT_f {kp fi op : Nat → Nat} {t k i : Nat} (h : ¬ ((op k).testBit i = true ∧ ¬ fi (k * 6 + i) &&& t = 0)) : kT kp fi op t k i = kT kp fi op t k (i + 1) := by
  funext j
  unfold kT
  by_cases h1 : j < k
  · rw [if_pos h1, if_pos h1]
  · by_cases h2 : j = k
    · subst h2
      rw [if_neg h1, if_pos rfl, if_neg h1, if_pos rfl]
      show _ = kp j ||| (_ ||| (if _ then _ else _))
      rw [if_neg h, Nat.or_zero]; rfl
    · rw [if_neg h1, if_neg h2, if_neg h1, if_neg h2]
theorem kT_t {kp fi op : Nat → Nat} {t k i : Nat} (h : (op k).testBit i = true ∧ ¬ fi (k * 6 + i) &&& t = 0) : va_up (kT kp fi op t k i) k (kT kp fi op t k i k ||| 1 * 2 ^ i) = kT kp fi op t k (i + 1) := by
  funext j
  unfold va_up
  by_cases h2 : j = k
  · subst h2
    rw [if_pos rfl, Nat.one_mul]
    unfold kT
    rw [if_neg (Nat.lt_irrefl _), if_pos rfl, if_neg (Nat.lt_irrefl _), if_pos rfl]
    show (kp j ||| _) ||| _ = kp j ||| (_ ||| (if _ then _ else _))
    rw [if_pos h, Nat.or_assoc]; rfl
  · rw [if_neg h2]
    unfold kT
    by_cases h1 : j < k
    · rw [if_pos h1, if_pos h1]
    · rw [if_neg h1, if_neg h2, if_neg h1, if_neg h2]
def twc (fi op : Nat → Nat) : Nat → Nat → Nat → Nat
  | 0, _, t => if t = 0 then 0 else 1
  | d + 1, k, t => if t = 0 then 0 else sm (fun v => if (op k).testBit v = true then twc fi op d (k + 1) (t &&& fi (k * 6 + v)) else 0) 6
def tcV (fi op : Nat → Nat) (d k t v : Nat) : Nat := if (op k).testBit v = true then twc fi op d (k + 1) (t &&& fi (k * 6 + v)) else 0
theorem twc_0 {fi op : Nat → Nat} : ∀ {d k : Nat}, twc fi op d k 0 = 0
  | 0, _ => rfl
  | _ + 1, _ => rfl
theorem twc_s {fi op : Nat → Nat} {d k t : Nat} (h : ¬ t = 0) : twc fi op (d + 1) k t = sm (tcV fi op d k t) 6 := by
  show (if _ then _ else _) = _
  rw [if_neg h]; rfl
theorem twc_le (fi op : Nat → Nat) : ∀ d k t, twc fi op d k t ≤ 6 ^ d
  | 0, _, t => by
    show (if t = 0 then 0 else 1) ≤ 1
    split <;> omega
  | d + 1, k, t => by
    show (if t = 0 then 0 else _) ≤ _
    split
    · exact Nat.zero_le _
    · refine Nat.le_trans (sm_le (B := 6 ^ d) (fun v => ?_) 6) (by rw [Nat.pow_succ]; omega)
      show (if _ then _ else _) ≤ _
      split
      · exact twc_le fi op d (k + 1) _
      · exact Nat.zero_le _
theorem tcV_t {fi op : Nat → Nat} {d k t i : Nat} (h : (op k).testBit i = true) : sm (tcV fi op d k t) (i + 1) = sm (tcV fi op d k t) i + twc fi op d (k + 1) (t &&& fi (k * 6 + i)) := by
  show _ + (if _ then _ else _) = _
  rw [if_pos h]
theorem tcV_f {fi op : Nat → Nat} {d k t i : Nat} (h : (op k).testBit i = false) : sm (tcV fi op d k t) (i + 1) = sm (tcV fi op d k t) i := by
  show _ + (if _ then _ else _) = _
  rw [if_neg (by rw [h]; decide)]; rfl
/-- a tuple more, number tu, in the places below b -/
def fPut (fi : Nat → Nat) (w tu b : Nat) : Nat → Nat := fun j => if j < b ∧ (dgt w (j / 6) = 7 ∨ dgt w (j / 6) = j % 6) then fi j ||| 2 ^ tu else fi j
theorem fPut_0 {fi : Nat → Nat} {w tu : Nat} : fPut fi w tu 0 = fi := by
  funext j
  unfold fPut
  rw [if_neg (by omega)]
theorem fPut_t {fi : Nat → Nat} {w tu k i : Nat} (hi : i < 6) (h : dgt w k = 7 ∨ dgt w k = i) : va_up (fPut fi w tu (k * 6 + i)) (k * 6 + i) (fPut fi w tu (k * 6 + i) (k * 6 + i) ||| 1 * 2 ^ tu) = fPut fi w tu (k * 6 + (i + 1)) := by
  have e1 : (k * 6 + i) / 6 = k := by omega
  have e2 : (k * 6 + i) % 6 = i := by omega
  funext j
  unfold va_up
  by_cases hj : j = k * 6 + i
  · subst hj
    rw [if_pos rfl, Nat.one_mul]
    unfold fPut
    rw [if_neg (by omega), if_pos ⟨by omega, by rw [e1, e2]; exact h⟩]
  · rw [if_neg hj]
    unfold fPut
    by_cases hk : j < k * 6 + i ∧ (dgt w (j / 6) = 7 ∨ dgt w (j / 6) = j % 6)
    · rw [if_pos hk, if_pos ⟨by omega, hk.2⟩]
    · rw [if_neg hk, if_neg (fun q => hk ⟨by omega, q.2⟩)]
theorem fPut_f {fi : Nat → Nat} {w tu k i : Nat} (hi : i < 6) (h : ¬ (dgt w k = 7 ∨ dgt w k = i)) : fPut fi w tu (k * 6 + i) = fPut fi w tu (k * 6 + (i + 1)) := by
  have e1 : (k * 6 + i) / 6 = k := by omega
  have e2 : (k * 6 + i) % 6 = i := by omega
  funext j
  unfold fPut
  by_cases hj : j = k * 6 + i
  · subst hj
    rw [if_neg (by omega), if_neg (fun q => h (by rw [e1, e2] at q; exact q.2))]
  · by_cases hk : j < k * 6 + i ∧ (dgt w (j / 6) = 7 ∨ dgt w (j / 6) = j % 6)
    · rw [if_pos hk, if_pos ⟨by omega, hk.2⟩]
    · rw [if_neg hk, if_neg (fun q => hk ⟨by omega, q.2⟩)]
theorem fPut_n {fi : Nat → Nat} {w tu k : Nat} : fPut fi w tu (k * 6 + 6) = fPut fi w tu ((k + 1) * 6 + 0) := by
  congr 1
  omega
set_option maxHeartbeats 4000000 in
set_option maxRecDepth 100000 in
theorem c_Co_parts (l : Launch) (D : va_G) (cI : ClassId) (sz : Nat) (h : Nat) (ci : Nat) (ex : List Value) (kd : Nat) (mn : Nat) (w : Nat) (ns : Nat) (hn : Nat) (hq : Nat)  : MetI l y_Co_parts b_Co_parts 1 (some .int) { frames := 0, cells := 0, slots := 0, locals := 0 } D cI [] sz [(h, .inr (ci, .int (nI kd) :: .int (nI mn) :: .int (nI w) :: .int (nI ns) :: .int (nI hn) :: .int (nI hq) :: ex))] [.ref h] (fun (r : Int32) (u : Unit) => r = (nI 0)) (fun u : Unit => [(h, .inr (ci, .int (nI kd) :: .int (nI mn) :: .int (nI w) :: .int (nI ns) :: .int (nI hn) :: .int (nI hq) :: ex))]) := by
  refine enter (by decide) (Nat.le_of_ble_eq_true rfl) ?_
  intro p e s m below meth c A ls C0 hr hlk hnm hK hsz hA hAe hP hD hS hl
  have hx := C0.1
  have hb := C0.2.1
  have hl : lv_has ls 1 [(0, .ref h)] := hl
  refine lv_iconst (v := (nI 0)) hx hb d_Co_parts_0 (by decide) ?_
  exact ret_i C0 hr hlk hAe hS () rfl hP hD rfl (Nat.le_of_ble_eq_true rfl) (Nat.le_of_ble_eq_true rfl) d_Co_parts_1
set_option maxHeartbeats 4000000 in
set_option maxRecDepth 100000 in
theorem c_Ta_parts (l : Launch) (D : va_G) (cI : ClassId) (sz : Nat) (h : Nat) (kd : Nat) (n : Nat) (w : Nat) (ns : Nat) (hn : Nat) (hq : Nat) (ft : Nat) (tu : Nat)  : MetI l y_Ta_parts b_Ta_parts 1 (some .int) { frames := 0, cells := 0, slots := 0, locals := 0 } D cI [] sz [(h, .inr (3, [.int (nI kd), .int (nI n), .int (nI w), .int (nI ns), .int (nI hn), .int (nI hq), .ref ft, .int (nI tu)]))] [.ref h] (fun (r : Int32) (u : Unit) => r = (nI tu)) (fun u : Unit => [(h, .inr (3, [.int (nI kd), .int (nI n), .int (nI w), .int (nI ns), .int (nI hn), .int (nI hq), .ref ft, .int (nI tu)]))]) := by
  refine enter (by decide) (Nat.le_of_ble_eq_true rfl) ?_
  intro p e s m below meth c A ls C0 hr hlk hnm hK hsz hA hAe hP hD hS hl
  have hx := C0.1
  have hb := C0.2.1
  have hl : lv_has ls 1 [(0, .ref h)] := hl
  refine lv_aload_n hx hb d_Ta_parts_0 rfl (lv_at hl 0 rfl) ?_
  refine r_get C0 hK hP 0 rfl rfl i_Ta 7 (by decide) wt_163 (fun _ h => h) rfl d_Ta_parts_1 ?_
  exact ret_i C0 hr hlk hAe hS () rfl hP hD rfl (Nat.le_of_ble_eq_true rfl) (Nat.le_of_ble_eq_true rfl) d_Ta_parts_4
set_option maxHeartbeats 4000000 in
set_option maxRecDepth 100000 in
theorem c_Ta_openTuples (l : Launch) (D : va_G) (cI : ClassId) (sz : Nat) (h : Nat) (kd : Nat) (n : Nat) (w : Nat) (ns : Nat) (hn : Nat) (hq : Nat) (ft : Nat) (tu : Nat) (hp : Nat) (po : Nat) (pk : Nat) (pa : Nat) (pb : Nat) (pw : Nat) (ps : Nat) (tm : Nat) (fi : Nat → Nat) (op : Nat → Nat) (hn6 : n ≤ 6) (htu : tu ≤ 20) (hfi : ∀ j, fi j < 1048576) (hop : ∀ j, op j < 64) : MetI l y_Ta_openTuples b_Ta_openTuples 6 (some .int) { frames := 1, cells := 0, slots := 0, locals := 21 } D cI [] sz [(h, .inr (3, [.int (nI kd), .int (nI n), .int (nI w), .int (nI ns), .int (nI hn), .int (nI hq), .ref ft, .int (nI tu)])), (ft, .inl (cI, 36, .inl (nA fi))), (hp, .inr (2, [.ref po, .ref pk, .ref pa, .ref pb, .ref pw, .ref ps, .int (nI tm)])), (po, .inl (cI, 6, .inl (nA op)))] [.ref h, .ref hp] (fun (r : Int32) (u : Unit) => r = (nI (otF fi op tu n))) (fun u : Unit => [(h, .inr (3, [.int (nI kd), .int (nI n), .int (nI w), .int (nI ns), .int (nI hn), .int (nI hq), .ref ft, .int (nI tu)])), (ft, .inl (cI, 36, .inl (nA fi))), (hp, .inr (2, [.ref po, .ref pk, .ref pa, .ref pb, .ref pw, .ref ps, .int (nI tm)])), (po, .inl (cI, 6, .inl (nA op)))]) := by
  refine enter (by decide) (Nat.le_of_ble_eq_true rfl) ?_
  intro p e s m below meth c A ls C0 hr hlk hnm hK hsz hA hAe hP hD hS hl
  have hx := C0.1
  have hb := C0.2.1
  have hl : lv_has ls 6 [(0, .ref h), (1, .ref hp)] := hl
  refine lv_iconst (v := (nI 1)) hx hb d_Ta_openTuples_0 (by decide) ?_
  refine lv_aload_n hx hb d_Ta_openTuples_1 rfl (lv_at hl 0 rfl) ?_
  refine r_get C0 hK hP 0 rfl rfl i_Ta 7 (by decide) wt_163 (fun _ h => h) rfl d_Ta_openTuples_2 ?_
  refine lv_ishl hx hb d_Ta_openTuples_5 ?_
  refine t_eq (y := (nI (1 * 2 ^ tu))) (m_shl _ (by omega)) ?_
  refine lv_iconst (v := (nI 1)) hx hb d_Ta_openTuples_6 (by decide) ?_
  refine lv_isub hx hb d_Ta_openTuples_7 ?_
  refine t_eq (y := (nI ((1 * 2 ^ tu) - 1))) (pk_sub (by have := Nat.two_pow_pos tu; omega)) ?_
  refine t_eq (y := (nI (otF fi op tu 0))) (by rw [Nat.one_mul]; rfl) ?_
  refine lv_istore_n (lv' := [(2, .int (nI (otF fi op tu 0))), (0, .ref h), (1, .ref hp)]) hx hb d_Ta_openTuples_8 rfl hl (by decide) rfl (fun ls hl => ?_)
  refine lv_iconst (v := (nI 0)) hx hb d_Ta_openTuples_9 (by decide) ?_
  refine lv_istore_n (lv' := [(3, .int (nI 0)), (2, .int (nI (otF fi op tu 0))), (0, .ref h), (1, .ref hp)]) hx hb d_Ta_openTuples_10 rfl hl (by decide) rfl (fun ls hl => ?_)
  have L11 : ∀ (fuel11 : Nat) (k : Nat), (k ≤ n) → (n < k + fuel11) → ∀ (H : Heap) (locs : List Loc) (ls : Array Slot), va_P D cls [(h, .inr (3, [.int (nI kd), .int (nI n), .int (nI w), .int (nI ns), .int (nI hn), .int (nI hq), .ref ft, .int (nI tu)])), (ft, .inl (cI, 36, .inl (nA fi))), (hp, .inr (2, [.ref po, .ref pk, .ref pa, .ref pb, .ref pw, .ref ps, .int (nI tm)])), (po, .inl (cI, 6, .inl (nA op)))] H → va_D A [(h, .inr (3, [.int (nI kd), .int (nI n), .int (nI w), .int (nI ns), .int (nI hn), .int (nI hq), .ref ft, .int (nI tu)])), (ft, .inl (cI, 36, .inl (nA fi))), (hp, .inr (2, [.ref po, .ref pk, .ref pa, .ref pb, .ref pw, .ref ps, .int (nI tm)])), (po, .inl (cI, 6, .inl (nA op)))] → va_S A s.heap H locs → lv_has ls 6 [(3, .int (nI k)), (2, .int (nI (otF fi op tu k))), (0, .ref h), (1, .ref hp)] → W p l e { frames := 1, cells := 0, slots := 0, locals := 21 } s m ([.ref h, .ref hp] : List Value).toArray below meth c H locs 0 0 (MQ below (pstI D [(h, .inr (3, [.int (nI kd), .int (nI n), .int (nI w), .int (nI ns), .int (nI hn), .int (nI hq), .ref ft, .int (nI tu)])), (ft, .inl (cI, 36, .inl (nA fi))), (hp, .inr (2, [.ref po, .ref pk, .ref pa, .ref pb, .ref pw, .ref ps, .int (nI tm)])), (po, .inl (cI, 6, .inl (nA op)))] sz (fun (r : Int32) (u : Unit) => r = (nI (otF fi op tu n))) (fun u : Unit => [(h, .inr (3, [.int (nI kd), .int (nI n), .int (nI w), .int (nI ns), .int (nI hn), .int (nI hq), .ref ft, .int (nI tu)])), (ft, .inl (cI, 36, .inl (nA fi))), (hp, .inr (2, [.ref po, .ref pk, .ref pa, .ref pb, .ref pw, .ref ps, .int (nI tm)])), (po, .inl (cI, 6, .inl (nA op)))])) ([.ref h, .ref hp] : List Value).toArray s 0 0 A) (F0 m 11 ls []) := by
    intro fuel11
    induction fuel11 with
    | zero => intros; omega
    | succ fuel11 ih11 =>
      intro k hk hfu H locs ls hP hD hS hl
      refine lv_iload_n hx hb d_Ta_openTuples_11 rfl (lv_at hl 0 rfl) ?_
      refine lv_aload_n hx hb d_Ta_openTuples_12 rfl (lv_at hl 2 rfl) ?_
      refine r_get C0 hK hP 0 rfl rfl i_Ta 1 (by decide) wt_171 (fun x h => u_same (C0.2.2.2.2 _ wt_172) x h) rfl d_Ta_openTuples_13 ?_
      refine b_ge (tgt := 86) hx hb (by omega) (by omega) d_Ta_openTuples_16 (by decide) (fun c_16 => ?_) (fun c_16 => ?_)
      · refine lv_iload_n hx hb d_Ta_openTuples_86 rfl (lv_at hl 1 rfl) ?_
        exact ret_i C0 hr hlk hAe hS () (by obtain rfl : k = n := (by omega); rfl) hP hD rfl (Nat.le_of_ble_eq_true rfl) (Nat.le_of_ble_eq_true rfl) d_Ta_openTuples_87
      · refine lv_iload_n hx hb d_Ta_openTuples_19 rfl (lv_at hl 0 rfl) ?_
        refine lv_bipush (v := (nI 6)) hx hb d_Ta_openTuples_20 (by decide) ?_
        refine b_ge (tgt := 86) hx hb (by omega) (by decide) d_Ta_openTuples_22 (by decide) (fun c_22 => ?_) (fun c_22 => ?_)
        · refine lv_iload_n hx hb d_Ta_openTuples_86 rfl (lv_at hl 1 rfl) ?_
          exact ret_i C0 hr hlk hAe hS () (by obtain rfl : k = n := (by omega); rfl) hP hD rfl (Nat.le_of_ble_eq_true rfl) (Nat.le_of_ble_eq_true rfl) d_Ta_openTuples_87
        · refine lv_iconst (v := (nI 0)) hx hb d_Ta_openTuples_25 (by decide) ?_
          refine lv_istore (lv' := [(4, .int (nI 0)), (3, .int (nI k)), (2, .int (nI (otF fi op tu k))), (0, .ref h), (1, .ref hp)]) hx hb d_Ta_openTuples_26 hl (by decide) rfl (fun ls hl => ?_)
          refine lv_iconst (v := (nI 0)) hx hb d_Ta_openTuples_28 (by decide) ?_
          refine lv_istore (lv' := [(5, .int (nI 0)), (4, .int (nI 0)), (3, .int (nI k)), (2, .int (nI (otF fi op tu k))), (0, .ref h), (1, .ref hp)]) hx hb d_Ta_openTuples_29 hl (by decide) rfl (fun ls hl => ?_)
          have hl : lv_has ls 6 [(5, .int (nI 0)), (4, .int (nI (orV fi op k 0))), (3, .int (nI k)), (2, .int (nI (otF fi op tu k))), (0, .ref h), (1, .ref hp)] := by rw [show orV fi op k 0 = 0 from rfl]; exact hl
          have L31 : ∀ (fuel31 : Nat) (i : Nat), (i ≤ 6) → (6 < i + fuel31) → ∀ (H : Heap) (locs : List Loc) (ls : Array Slot), va_P D cls [(h, .inr (3, [.int (nI kd), .int (nI n), .int (nI w), .int (nI ns), .int (nI hn), .int (nI hq), .ref ft, .int (nI tu)])), (ft, .inl (cI, 36, .inl (nA fi))), (hp, .inr (2, [.ref po, .ref pk, .ref pa, .ref pb, .ref pw, .ref ps, .int (nI tm)])), (po, .inl (cI, 6, .inl (nA op)))] H → va_D A [(h, .inr (3, [.int (nI kd), .int (nI n), .int (nI w), .int (nI ns), .int (nI hn), .int (nI hq), .ref ft, .int (nI tu)])), (ft, .inl (cI, 36, .inl (nA fi))), (hp, .inr (2, [.ref po, .ref pk, .ref pa, .ref pb, .ref pw, .ref ps, .int (nI tm)])), (po, .inl (cI, 6, .inl (nA op)))] → va_S A s.heap H locs → lv_has ls 6 [(5, .int (nI i)), (4, .int (nI (orV fi op k i))), (3, .int (nI k)), (2, .int (nI (otF fi op tu k))), (0, .ref h), (1, .ref hp)] → W p l e { frames := 1, cells := 0, slots := 0, locals := 21 } s m ([.ref h, .ref hp] : List Value).toArray below meth c H locs 0 0 (MQ below (pstI D [(h, .inr (3, [.int (nI kd), .int (nI n), .int (nI w), .int (nI ns), .int (nI hn), .int (nI hq), .ref ft, .int (nI tu)])), (ft, .inl (cI, 36, .inl (nA fi))), (hp, .inr (2, [.ref po, .ref pk, .ref pa, .ref pb, .ref pw, .ref ps, .int (nI tm)])), (po, .inl (cI, 6, .inl (nA op)))] sz (fun (r : Int32) (u : Unit) => r = (nI (otF fi op tu n))) (fun u : Unit => [(h, .inr (3, [.int (nI kd), .int (nI n), .int (nI w), .int (nI ns), .int (nI hn), .int (nI hq), .ref ft, .int (nI tu)])), (ft, .inl (cI, 36, .inl (nA fi))), (hp, .inr (2, [.ref po, .ref pk, .ref pa, .ref pb, .ref pw, .ref ps, .int (nI tm)])), (po, .inl (cI, 6, .inl (nA op)))])) ([.ref h, .ref hp] : List Value).toArray s 0 0 A) (F0 m 31 ls []) := by
            intro fuel31
            induction fuel31 with
            | zero => intros; omega
            | succ fuel31 ih31 =>
              intro i hi hfu2 H locs ls hP hD hS hl
              refine lv_iload hx hb d_Ta_openTuples_31 (lv_at hl 0 rfl) ?_
              refine lv_bipush (v := (nI 6)) hx hb d_Ta_openTuples_33 (by decide) ?_
              refine b_ge (tgt := 75) hx hb (by omega) (by decide) d_Ta_openTuples_35 (by decide) (fun c_35 => ?_) (fun c_35 => ?_)
              · obtain rfl : i = 6 := (by omega)
                refine lv_iload_n hx hb d_Ta_openTuples_75 rfl (lv_at hl 3 rfl) ?_
                refine lv_iload hx hb d_Ta_openTuples_76 (lv_at hl 1 rfl) ?_
                refine lv_iand hx hb d_Ta_openTuples_78 ?_
                refine t_eq (y := (nI ((otF fi op tu k) &&& (orV fi op k 6)))) (m_and _ _) ?_
                refine t_eq (y := (nI (otF fi op tu (k + 1)))) rfl ?_
                refine lv_istore_n (lv' := [(2, .int (nI (otF fi op tu (k + 1)))), (5, .int (nI 6)), (4, .int (nI (orV fi op k 6))), (3, .int (nI k)), (0, .ref h), (1, .ref hp)]) hx hb d_Ta_openTuples_79 rfl hl (by decide) rfl (fun ls hl => ?_)
                refine lv_iinc (v := (nI (k + 1))) (lv' := [(3, .int (nI (k + 1))), (2, .int (nI (otF fi op tu (k + 1)))), (5, .int (nI 6)), (4, .int (nI (orV fi op k 6))), (0, .ref h), (1, .ref hp)]) hx hb d_Ta_openTuples_80 hl (k := 3) rfl (by exact nI_1 _) (by decide) rfl (fun ls hl => ?_)
                refine lv_goto (tgt := 11) hx hb d_Ta_openTuples_83 (by decide) ?_
                exact ih11 (k + 1) (by omega) (by omega) _ _ _ hP hD hS (lv_sub hl [0, 1, 4, 5] rfl)
              · refine lv_aload_n hx hb d_Ta_openTuples_38 rfl (lv_at hl 5 rfl) ?_
                refine r_get C0 hK hP 2 rfl rfl i_Pl 0 (by decide) wt_56 (fun _ h => h) rfl d_Ta_openTuples_39 ?_
                refine lv_iload_n hx hb d_Ta_openTuples_42 rfl (lv_at hl 2 rfl) ?_
                refine r_ald C0 hK hP 3 rfl (by omega) (by decide) d_Ta_openTuples_43 ?_
                refine t_eq (y := (nI (op k))) rfl ?_
                refine lv_iload hx hb d_Ta_openTuples_44 (lv_at hl 0 rfl) ?_
                refine call_i (rm := { frames := 0, cells := 0, slots := 0, locals := 0 }) hS hP hD hA (spl_mk (wc := []) (wr := [(h, .inr (3, [.int (nI kd), .int (nI n), .int (nI w), .int (nI ns), .int (nI hn), .int (nI hq), .ref ft, .int (nI tu)])), (ft, .inl (cI, 36, .inl (nA fi))), (hp, .inr (2, [.ref po, .ref pk, .ref pa, .ref pb, .ref pw, .ref ps, .int (nI tm)])), (po, .inl (cI, 6, .inl (nA op)))]) [] [0, 1, 2, 3] rfl rfl (by decide)) (run_sN (n := 2) (As := [.int (nI (op k)), .int (nI i)]) (rest := []) C0 (hK.sub [] rfl) (c_TC_has l D cI H.size (op k) i (Nat.lt_trans (hop _) (by decide)) (by omega)) wt_147 wt_1 wn_526 wt_146 (by decide +kernel) ⟨Nat.le_of_ble_eq_true rfl, Nat.le_of_ble_eq_true rfl⟩ rfl hl.1 rfl (Nat.le_of_ble_eq_true rfl) d_Ta_openTuples_46 ⟨Nat.le_of_ble_eq_true rfl, Nat.le_of_ble_eq_true rfl⟩) (fun r_46 _u46 H locs hw_46 hP hD hS => ?_)
                have hP : va_P D cls [(h, .inr (3, [.int (nI kd), .int (nI n), .int (nI w), .int (nI ns), .int (nI hn), .int (nI hq), .ref ft, .int (nI tu)])), (ft, .inl (cI, 36, .inl (nA fi))), (hp, .inr (2, [.ref po, .ref pk, .ref pa, .ref pb, .ref pw, .ref ps, .int (nI tm)])), (po, .inl (cI, 6, .inl (nA op)))] H := hP
                have hD : va_D A [(h, .inr (3, [.int (nI kd), .int (nI n), .int (nI w), .int (nI ns), .int (nI hn), .int (nI hq), .ref ft, .int (nI tu)])), (ft, .inl (cI, 36, .inl (nA fi))), (hp, .inr (2, [.ref po, .ref pk, .ref pa, .ref pb, .ref pw, .ref ps, .int (nI tm)])), (po, .inl (cI, 6, .inl (nA op)))] := hD
                subst hw_46
                refine y_eq (tgt := 69) hx hb d_Ta_openTuples_49 (by decide) (fun c_49 => ?_) (fun c_49 => ?_)
                · have hl : lv_has ls 6 [(5, .int (nI i)), (4, .int (nI (orV fi op k (i + 1)))), (3, .int (nI k)), (2, .int (nI (otF fi op tu k))), (0, .ref h), (1, .ref hp)] := by rw [show orV fi op k (i + 1) = orV fi op k i from (orV_f c_49)]; exact hl
                  refine lv_iinc (v := (nI (i + 1))) (lv' := [(5, .int (nI (i + 1))), (4, .int (nI (orV fi op k (i + 1)))), (3, .int (nI k)), (2, .int (nI (otF fi op tu k))), (0, .ref h), (1, .ref hp)]) hx hb d_Ta_openTuples_69 hl (k := 0) rfl (by exact nI_1 _) (by decide) rfl (fun ls hl => ?_)
                  refine lv_goto (tgt := 31) hx hb d_Ta_openTuples_72 (by decide) ?_
                  exact ih31 (i + 1) (by omega) (by omega) _ _ _ hP hD hS (lv_sub hl [0, 1, 2, 3, 4, 5] rfl)
                · refine lv_iload hx hb d_Ta_openTuples_52 (lv_at hl 1 rfl) ?_
                  refine lv_aload_n hx hb d_Ta_openTuples_54 rfl (lv_at hl 4 rfl) ?_
                  refine r_get C0 hK hP 0 rfl rfl i_Ta 6 (by decide) wt_162 (fun _ h => h) rfl d_Ta_openTuples_55 ?_
                  refine lv_iload_n hx hb d_Ta_openTuples_58 rfl (lv_at hl 2 rfl) ?_
                  refine lv_bipush (v := (nI 6)) hx hb d_Ta_openTuples_59 (by decide) ?_
                  refine lv_imul hx hb d_Ta_openTuples_61 ?_
                  refine t_eq (y := (nI (k * 6))) (pk_mul _ _) ?_
                  refine lv_iload hx hb d_Ta_openTuples_62 (lv_at hl 0 rfl) ?_
                  refine lv_iadd hx hb d_Ta_openTuples_64 ?_
                  refine t_eq (y := (nI ((k * 6) + i))) (nI_add _ _) ?_
                  refine r_ald C0 hK hP 1 rfl (by omega) (by decide) d_Ta_openTuples_65 ?_
                  refine t_eq (y := (nI (fi ((k * 6) + i)))) rfl ?_
                  refine lv_ior hx hb d_Ta_openTuples_66 ?_
                  refine t_eq (y := (nI ((orV fi op k i) ||| (fi ((k * 6) + i))))) (m_or _ _) ?_
                  refine lv_istore (lv' := [(4, .int (nI ((orV fi op k i) ||| (fi ((k * 6) + i))))), (5, .int (nI i)), (3, .int (nI k)), (2, .int (nI (otF fi op tu k))), (0, .ref h), (1, .ref hp)]) hx hb d_Ta_openTuples_67 hl (by decide) rfl (fun ls hl => ?_)
                  have hl : lv_has ls 6 [(4, .int (nI (orV fi op k (i + 1)))), (5, .int (nI i)), (3, .int (nI k)), (2, .int (nI (otF fi op tu k))), (0, .ref h), (1, .ref hp)] := by rw [show orV fi op k (i + 1) = (orV fi op k i) ||| (fi ((k * 6) + i)) from (orV_t c_49)]; exact hl
                  refine lv_iinc (v := (nI (i + 1))) (lv' := [(5, .int (nI (i + 1))), (4, .int (nI (orV fi op k (i + 1)))), (3, .int (nI k)), (2, .int (nI (otF fi op tu k))), (0, .ref h), (1, .ref hp)]) hx hb d_Ta_openTuples_69 hl (k := 1) rfl (by exact nI_1 _) (by decide) rfl (fun ls hl => ?_)
                  refine lv_goto (tgt := 31) hx hb d_Ta_openTuples_72 (by decide) ?_
                  exact ih31 (i + 1) (by omega) (by omega) _ _ _ hP hD hS (lv_sub hl [0, 1, 2, 3, 4, 5] rfl)
          exact L31 (7) 0 (by omega) (by omega) _ _ _ hP hD hS (lv_sub hl [0, 1, 2, 3, 4, 5] rfl)
  exact L11 (n + 1) 0 (by omega) (by omega) _ _ _ hP hD hS (lv_sub hl [0, 1, 2, 3] rfl)
set_option maxHeartbeats 4000000 in
set_option maxRecDepth 100000 in
theorem c_Ta_keeps (l : Launch) (D : va_G) (cI : ClassId) (sz : Nat) (h : Nat) (kd : Nat) (n : Nat) (w : Nat) (ns : Nat) (hn : Nat) (hq : Nat) (ft : Nat) (tu : Nat) (hp : Nat) (po : Nat) (pk : Nat) (pa : Nat) (pb : Nat) (pw : Nat) (ps : Nat) (tm : Nat) (fi : Nat → Nat) (op : Nat → Nat) (kp : Nat → Nat) (hn6 : n ≤ 6) (htu : tu ≤ 20) (hfi : ∀ j, fi j < 1048576) (hop : ∀ j, op j < 64) : MetI l y_Ta_keeps b_Ta_keeps 5 (some .boolean) { frames := 2, cells := 0, slots := 0, locals := 46 } D cI [] sz [(h, .inr (3, [.int (nI kd), .int (nI n), .int (nI w), .int (nI ns), .int (nI hn), .int (nI hq), .ref ft, .int (nI tu)])), (ft, .inl (cI, 36, .inl (nA fi))), (hp, .inr (2, [.ref po, .ref pk, .ref pa, .ref pb, .ref pw, .ref ps, .int (nI tm)])), (po, .inl (cI, 6, .inl (nA op))), (pk, .inl (cI, 6, .inl (nA kp)))] [.ref h, .ref hp] (fun (r : Int32) (u : Nat → Nat) => r = bI (decide (¬ otF fi op tu n = 0)) ∧ u = if otF fi op tu n = 0 then kp else kT kp fi op (otF fi op tu n) n 0) (fun u : Nat → Nat => [(h, .inr (3, [.int (nI kd), .int (nI n), .int (nI w), .int (nI ns), .int (nI hn), .int (nI hq), .ref ft, .int (nI tu)])), (ft, .inl (cI, 36, .inl (nA fi))), (hp, .inr (2, [.ref po, .ref pk, .ref pa, .ref pb, .ref pw, .ref ps, .int (nI tm)])), (po, .inl (cI, 6, .inl (nA op))), (pk, .inl (cI, 6, .inl (nA u)))]) := by
  refine enter (by decide) (Nat.le_of_ble_eq_true rfl) ?_
  intro p e s m below meth c A ls C0 hr hlk hnm hK hsz hA hAe hP hD hS hl
  have hx := C0.1
  have hb := C0.2.1
  have hl : lv_has ls 5 [(0, .ref h), (1, .ref hp)] := hl
  refine lv_aload_n hx hb d_Ta_keeps_0 rfl (lv_at hl 0 rfl) ?_
  refine lv_aload_n hx hb d_Ta_keeps_1 rfl (lv_at hl 1 rfl) ?_
  refine call_i (rm := { frames := 1, cells := 0, slots := 0, locals := 21 }) hS hP hD hA (spl_mk (wc := [(h, .inr (3, [.int (nI kd), .int (nI n), .int (nI w), .int (nI ns), .int (nI hn), .int (nI hq), .ref ft, .int (nI tu)])), (ft, .inl (cI, 36, .inl (nA fi))), (hp, .inr (2, [.ref po, .ref pk, .ref pa, .ref pb, .ref pw, .ref ps, .int (nI tm)])), (po, .inl (cI, 6, .inl (nA op)))]) (wr := [(pk, .inl (cI, 6, .inl (nA kp)))]) [0, 1, 2, 3] [4] rfl rfl (by decide)) (run_v (n := 1) (As := [.ref hp]) (rest := []) (q0 := 0) (ci := 3) C0 (hK.sub [] rfl) (c_Ta_openTuples l D cI s.heap.size h kd n w ns hn hq ft tu hp po pk pa pb pw ps tm fi op (by omega) (by omega) hfi hop) rfl rfl wt_525 wt_6 wt_522 wt_524 wp_8 (by decide +kernel) ⟨Nat.le_of_ble_eq_true rfl, Nat.le_of_ble_eq_true rfl⟩ rfl hl.1 rfl (Nat.le_of_ble_eq_true rfl) d_Ta_keeps_2 ⟨Nat.le_of_ble_eq_true rfl, Nat.le_of_ble_eq_true rfl⟩) (fun r_2 _u2 H locs hw_2 hP hD hS => ?_)
  have hP : va_P D cls [(pk, .inl (cI, 6, .inl (nA kp))), (h, .inr (3, [.int (nI kd), .int (nI n), .int (nI w), .int (nI ns), .int (nI hn), .int (nI hq), .ref ft, .int (nI tu)])), (ft, .inl (cI, 36, .inl (nA fi))), (hp, .inr (2, [.ref po, .ref pk, .ref pa, .ref pb, .ref pw, .ref ps, .int (nI tm)])), (po, .inl (cI, 6, .inl (nA op)))] H := hP
  have hD : va_D A [(pk, .inl (cI, 6, .inl (nA kp))), (h, .inr (3, [.int (nI kd), .int (nI n), .int (nI w), .int (nI ns), .int (nI hn), .int (nI hq), .ref ft, .int (nI tu)])), (ft, .inl (cI, 36, .inl (nA fi))), (hp, .inr (2, [.ref po, .ref pk, .ref pa, .ref pb, .ref pw, .ref ps, .int (nI tm)])), (po, .inl (cI, 6, .inl (nA op)))] := hD
  subst hw_2
  have hot : otF fi op tu n < 1048576 := otF_lt htu n
  refine lv_istore_n (lv' := [(2, .int (nI (otF fi op tu n))), (0, .ref h), (1, .ref hp)]) hx hb d_Ta_keeps_5 rfl hl (by decide) rfl (fun ls hl => ?_)
  refine lv_iload_n hx hb d_Ta_keeps_6 rfl (lv_at hl 0 rfl) ?_
  refine z_ne (tgt := 12) hx hb (by omega) d_Ta_keeps_7 (by decide) (fun c_7 => ?_) (fun c_7 => ?_)
  · refine lv_iconst (v := (nI 0)) hx hb d_Ta_keeps_12 (by decide) ?_
    refine lv_istore_n (lv' := [(3, .int (nI 0)), (2, .int (nI (otF fi op tu n))), (0, .ref h), (1, .ref hp)]) hx hb d_Ta_keeps_13 rfl hl (by decide) rfl (fun ls hl => ?_)
    have hP : va_P D cls [(h, .inr (3, [.int (nI kd), .int (nI n), .int (nI w), .int (nI ns), .int (nI hn), .int (nI hq), .ref ft, .int (nI tu)])), (ft, .inl (cI, 36, .inl (nA fi))), (hp, .inr (2, [.ref po, .ref pk, .ref pa, .ref pb, .ref pw, .ref ps, .int (nI tm)])), (po, .inl (cI, 6, .inl (nA op))), (pk, .inl (cI, 6, .inl (nA kp)))] H := hP.sub [1, 2, 3, 4, 0] rfl
    have hD : va_D A [(h, .inr (3, [.int (nI kd), .int (nI n), .int (nI w), .int (nI ns), .int (nI hn), .int (nI hq), .ref ft, .int (nI tu)])), (ft, .inl (cI, 36, .inl (nA fi))), (hp, .inr (2, [.ref po, .ref pk, .ref pa, .ref pb, .ref pw, .ref ps, .int (nI tm)])), (po, .inl (cI, 6, .inl (nA op))), (pk, .inl (cI, 6, .inl (nA kp)))] := hD.sub [1, 2, 3, 4, 0] (by decide) rfl
    rw [show kp = kT kp fi op (otF fi op tu n) 0 0 from kT_0.symm] at hP hD
    have L14 : ∀ (fuel14 : Nat) (k : Nat), (k ≤ n) → (n < k + fuel14) → ∀ (H : Heap) (locs : List Loc) (ls : Array Slot), va_P D cls [(h, .inr (3, [.int (nI kd), .int (nI n), .int (nI w), .int (nI ns), .int (nI hn), .int (nI hq), .ref ft, .int (nI tu)])), (ft, .inl (cI, 36, .inl (nA fi))), (hp, .inr (2, [.ref po, .ref pk, .ref pa, .ref pb, .ref pw, .ref ps, .int (nI tm)])), (po, .inl (cI, 6, .inl (nA op))), (pk, .inl (cI, 6, .inl (nA (kT kp fi op (otF fi op tu n) k 0))))] H → va_D A [(h, .inr (3, [.int (nI kd), .int (nI n), .int (nI w), .int (nI ns), .int (nI hn), .int (nI hq), .ref ft, .int (nI tu)])), (ft, .inl (cI, 36, .inl (nA fi))), (hp, .inr (2, [.ref po, .ref pk, .ref pa, .ref pb, .ref pw, .ref ps, .int (nI tm)])), (po, .inl (cI, 6, .inl (nA op))), (pk, .inl (cI, 6, .inl (nA (kT kp fi op (otF fi op tu n) k 0))))] → va_S A s.heap H locs → lv_has ls 5 [(3, .int (nI k)), (2, .int (nI (otF fi op tu n))), (0, .ref h), (1, .ref hp)] → W p l e { frames := 2, cells := 0, slots := 0, locals := 46 } s m ([.ref h, .ref hp] : List Value).toArray below meth c H locs 0 0 (MQ below (pstI D [(h, .inr (3, [.int (nI kd), .int (nI n), .int (nI w), .int (nI ns), .int (nI hn), .int (nI hq), .ref ft, .int (nI tu)])), (ft, .inl (cI, 36, .inl (nA fi))), (hp, .inr (2, [.ref po, .ref pk, .ref pa, .ref pb, .ref pw, .ref ps, .int (nI tm)])), (po, .inl (cI, 6, .inl (nA op))), (pk, .inl (cI, 6, .inl (nA kp)))] sz (fun (r : Int32) (u : Nat → Nat) => r = bI (decide (¬ otF fi op tu n = 0)) ∧ u = if otF fi op tu n = 0 then kp else kT kp fi op (otF fi op tu n) n 0) (fun u : Nat → Nat => [(h, .inr (3, [.int (nI kd), .int (nI n), .int (nI w), .int (nI ns), .int (nI hn), .int (nI hq), .ref ft, .int (nI tu)])), (ft, .inl (cI, 36, .inl (nA fi))), (hp, .inr (2, [.ref po, .ref pk, .ref pa, .ref pb, .ref pw, .ref ps, .int (nI tm)])), (po, .inl (cI, 6, .inl (nA op))), (pk, .inl (cI, 6, .inl (nA u)))])) ([.ref h, .ref hp] : List Value).toArray s 0 0 A) (F0 m 14 ls []) := by
      intro fuel14
      induction fuel14 with
      | zero => intros; omega
      | succ fuel14 ih14 =>
        intro k hk hfu H locs ls hP hD hS hl
        refine lv_iload_n hx hb d_Ta_keeps_14 rfl (lv_at hl 0 rfl) ?_
        refine lv_aload_n hx hb d_Ta_keeps_15 rfl (lv_at hl 2 rfl) ?_
        refine r_get C0 hK hP 0 rfl rfl i_Ta 1 (by decide) wt_171 (fun x h => u_same (C0.2.2.2.2 _ wt_172) x h) rfl d_Ta_keeps_16 ?_
        refine b_ge (tgt := 94) hx hb (by omega) (by omega) d_Ta_keeps_19 (by decide) (fun c_19 => ?_) (fun c_19 => ?_)
        · refine lv_iconst (v := (nI 1)) hx hb d_Ta_keeps_94 (by decide) ?_
          exact ret_i C0 hr hlk hAe hS (kT kp fi op (otF fi op tu n) k 0) (by obtain rfl : k = n := (by omega); exact ⟨by rw [decide_eq_true c_7]; rfl, by rw [if_neg c_7]⟩) hP hD rfl (Nat.le_of_ble_eq_true rfl) (Nat.le_of_ble_eq_true rfl) d_Ta_keeps_95
        · refine lv_iload_n hx hb d_Ta_keeps_22 rfl (lv_at hl 0 rfl) ?_
          refine lv_bipush (v := (nI 6)) hx hb d_Ta_keeps_23 (by decide) ?_
          refine b_ge (tgt := 94) hx hb (by omega) (by decide) d_Ta_keeps_25 (by decide) (fun c_25 => ?_) (fun c_25 => ?_)
          · refine lv_iconst (v := (nI 1)) hx hb d_Ta_keeps_94 (by decide) ?_
            exact ret_i C0 hr hlk hAe hS (kT kp fi op (otF fi op tu n) k 0) (by obtain rfl : k = n := (by omega); exact ⟨by rw [decide_eq_true c_7]; rfl, by rw [if_neg c_7]⟩) hP hD rfl (Nat.le_of_ble_eq_true rfl) (Nat.le_of_ble_eq_true rfl) d_Ta_keeps_95
          · refine lv_iconst (v := (nI 0)) hx hb d_Ta_keeps_28 (by decide) ?_
            refine lv_istore (lv' := [(4, .int (nI 0)), (3, .int (nI k)), (2, .int (nI (otF fi op tu n))), (0, .ref h), (1, .ref hp)]) hx hb d_Ta_keeps_29 hl (by decide) rfl (fun ls hl => ?_)
            have L31 : ∀ (fuel31 : Nat) (i : Nat), (i ≤ 6) → (6 < i + fuel31) → ∀ (H : Heap) (locs : List Loc) (ls : Array Slot), va_P D cls [(h, .inr (3, [.int (nI kd), .int (nI n), .int (nI w), .int (nI ns), .int (nI hn), .int (nI hq), .ref ft, .int (nI tu)])), (ft, .inl (cI, 36, .inl (nA fi))), (hp, .inr (2, [.ref po, .ref pk, .ref pa, .ref pb, .ref pw, .ref ps, .int (nI tm)])), (po, .inl (cI, 6, .inl (nA op))), (pk, .inl (cI, 6, .inl (nA (kT kp fi op (otF fi op tu n) k i))))] H → va_D A [(h, .inr (3, [.int (nI kd), .int (nI n), .int (nI w), .int (nI ns), .int (nI hn), .int (nI hq), .ref ft, .int (nI tu)])), (ft, .inl (cI, 36, .inl (nA fi))), (hp, .inr (2, [.ref po, .ref pk, .ref pa, .ref pb, .ref pw, .ref ps, .int (nI tm)])), (po, .inl (cI, 6, .inl (nA op))), (pk, .inl (cI, 6, .inl (nA (kT kp fi op (otF fi op tu n) k i))))] → va_S A s.heap H locs → lv_has ls 5 [(4, .int (nI i)), (3, .int (nI k)), (2, .int (nI (otF fi op tu n))), (0, .ref h), (1, .ref hp)] → W p l e { frames := 2, cells := 0, slots := 0, locals := 46 } s m ([.ref h, .ref hp] : List Value).toArray below meth c H locs 0 0 (MQ below (pstI D [(h, .inr (3, [.int (nI kd), .int (nI n), .int (nI w), .int (nI ns), .int (nI hn), .int (nI hq), .ref ft, .int (nI tu)])), (ft, .inl (cI, 36, .inl (nA fi))), (hp, .inr (2, [.ref po, .ref pk, .ref pa, .ref pb, .ref pw, .ref ps, .int (nI tm)])), (po, .inl (cI, 6, .inl (nA op))), (pk, .inl (cI, 6, .inl (nA kp)))] sz (fun (r : Int32) (u : Nat → Nat) => r = bI (decide (¬ otF fi op tu n = 0)) ∧ u = if otF fi op tu n = 0 then kp else kT kp fi op (otF fi op tu n) n 0) (fun u : Nat → Nat => [(h, .inr (3, [.int (nI kd), .int (nI n), .int (nI w), .int (nI ns), .int (nI hn), .int (nI hq), .ref ft, .int (nI tu)])), (ft, .inl (cI, 36, .inl (nA fi))), (hp, .inr (2, [.ref po, .ref pk, .ref pa, .ref pb, .ref pw, .ref ps, .int (nI tm)])), (po, .inl (cI, 6, .inl (nA op))), (pk, .inl (cI, 6, .inl (nA u)))])) ([.ref h, .ref hp] : List Value).toArray s 0 0 A) (F0 m 31 ls []) := by
              intro fuel31
              induction fuel31 with
              | zero => intros; omega
              | succ fuel31 ih31 =>
                intro i hi hfu2 H locs ls hP hD hS hl
                refine lv_iload hx hb d_Ta_keeps_31 (lv_at hl 0 rfl) ?_
                refine lv_bipush (v := (nI 6)) hx hb d_Ta_keeps_33 (by decide) ?_
                refine b_ge (tgt := 88) hx hb (by omega) (by decide) d_Ta_keeps_35 (by decide) (fun c_35 => ?_) (fun c_35 => ?_)
                · obtain rfl : i = 6 := (by omega)
                  rw [show (kT kp fi op (otF fi op tu n) k 6) = kT kp fi op (otF fi op tu n) (k + 1) 0 from kT_n] at hP hD
                  refine lv_iinc (v := (nI (k + 1))) (lv' := [(3, .int (nI (k + 1))), (4, .int (nI 6)), (2, .int (nI (otF fi op tu n))), (0, .ref h), (1, .ref hp)]) hx hb d_Ta_keeps_88 hl (k := 1) rfl (by exact nI_1 _) (by decide) rfl (fun ls hl => ?_)
                  refine lv_goto (tgt := 14) hx hb d_Ta_keeps_91 (by decide) ?_
                  exact ih14 (k + 1) (by omega) (by omega) _ _ _ hP hD hS (lv_sub hl [0, 2, 3, 4] rfl)
                · refine lv_aload_n hx hb d_Ta_keeps_38 rfl (lv_at hl 4 rfl) ?_
                  refine r_get C0 hK hP 2 rfl rfl i_Pl 0 (by decide) wt_56 (fun _ h => h) rfl d_Ta_keeps_39 ?_
                  refine lv_iload_n hx hb d_Ta_keeps_42 rfl (lv_at hl 1 rfl) ?_
                  refine r_ald C0 hK hP 3 rfl (by omega) (by decide) d_Ta_keeps_43 ?_
                  refine t_eq (y := (nI (op k))) rfl ?_
                  refine lv_iload hx hb d_Ta_keeps_44 (lv_at hl 0 rfl) ?_
                  refine call_i (rm := { frames := 0, cells := 0, slots := 0, locals := 0 }) hS hP hD hA (spl_mk (wc := []) (wr := [(h, .inr (3, [.int (nI kd), .int (nI n), .int (nI w), .int (nI ns), .int (nI hn), .int (nI hq), .ref ft, .int (nI tu)])), (ft, .inl (cI, 36, .inl (nA fi))), (hp, .inr (2, [.ref po, .ref pk, .ref pa, .ref pb, .ref pw, .ref ps, .int (nI tm)])), (po, .inl (cI, 6, .inl (nA op))), (pk, .inl (cI, 6, .inl (nA (kT kp fi op (otF fi op tu n) k i))))]) [] [0, 1, 2, 3, 4] rfl rfl (by decide)) (run_sN (n := 2) (As := [.int (nI (op k)), .int (nI i)]) (rest := []) C0 (hK.sub [] rfl) (c_TC_has l D cI H.size (op k) i (Nat.lt_trans (hop _) (by decide)) (by omega)) wt_147 wt_1 wn_526 wt_146 (by decide +kernel) ⟨Nat.le_of_ble_eq_true rfl, Nat.le_of_ble_eq_true rfl⟩ rfl hl.1 rfl (Nat.le_of_ble_eq_true rfl) d_Ta_keeps_46 ⟨Nat.le_of_ble_eq_true rfl, Nat.le_of_ble_eq_true rfl⟩) (fun r_46 _u46 H locs hw_46 hP hD hS => ?_)
                  have hP : va_P D cls [(h, .inr (3, [.int (nI kd), .int (nI n), .int (nI w), .int (nI ns), .int (nI hn), .int (nI hq), .ref ft, .int (nI tu)])), (ft, .inl (cI, 36, .inl (nA fi))), (hp, .inr (2, [.ref po, .ref pk, .ref pa, .ref pb, .ref pw, .ref ps, .int (nI tm)])), (po, .inl (cI, 6, .inl (nA op))), (pk, .inl (cI, 6, .inl (nA (kT kp fi op (otF fi op tu n) k i))))] H := hP
                  have hD : va_D A [(h, .inr (3, [.int (nI kd), .int (nI n), .int (nI w), .int (nI ns), .int (nI hn), .int (nI hq), .ref ft, .int (nI tu)])), (ft, .inl (cI, 36, .inl (nA fi))), (hp, .inr (2, [.ref po, .ref pk, .ref pa, .ref pb, .ref pw, .ref ps, .int (nI tm)])), (po, .inl (cI, 6, .inl (nA op))), (pk, .inl (cI, 6, .inl (nA (kT kp fi op (otF fi op tu n) k i))))] := hD
                  subst hw_46
                  refine y_eq (tgt := 82) hx hb d_Ta_keeps_49 (by decide) (fun c_49 => ?_) (fun c_49 => ?_)
                  · have hno : ¬ ((op k).testBit i = true ∧ ¬ fi (k * 6 + i) &&& otF fi op tu n = 0) := by first | exact fun q => q.2 c_66 | exact fun q => absurd q.1 (by rw [c_49]; decide)
                    rw [show (kT kp fi op (otF fi op tu n) k i) = kT kp fi op (otF fi op tu n) k (i + 1) from kT_f hno] at hP hD
                    refine lv_iinc (v := (nI (i + 1))) (lv' := [(4, .int (nI (i + 1))), (3, .int (nI k)), (2, .int (nI (otF fi op tu n))), (0, .ref h), (1, .ref hp)]) hx hb d_Ta_keeps_82 hl (k := 0) rfl (by exact nI_1 _) (by decide) rfl (fun ls hl => ?_)
                    refine lv_goto (tgt := 31) hx hb d_Ta_keeps_85 (by decide) ?_
                    exact ih31 (i + 1) (by omega) (by omega) _ _ _ hP hD hS (lv_sub hl [0, 1, 2, 3, 4] rfl)
                  · refine lv_aload_n hx hb d_Ta_keeps_52 rfl (lv_at hl 3 rfl) ?_
                    refine r_get C0 hK hP 0 rfl rfl i_Ta 6 (by decide) wt_162 (fun _ h => h) rfl d_Ta_keeps_53 ?_
                    refine lv_iload_n hx hb d_Ta_keeps_56 rfl (lv_at hl 1 rfl) ?_
                    refine lv_bipush (v := (nI 6)) hx hb d_Ta_keeps_57 (by decide) ?_
                    refine lv_imul hx hb d_Ta_keeps_59 ?_
                    refine t_eq (y := (nI (k * 6))) (pk_mul _ _) ?_
                    refine lv_iload hx hb d_Ta_keeps_60 (lv_at hl 0 rfl) ?_
                    refine lv_iadd hx hb d_Ta_keeps_62 ?_
                    refine t_eq (y := (nI ((k * 6) + i))) (nI_add _ _) ?_
                    refine r_ald C0 hK hP 1 rfl (by omega) (by decide) d_Ta_keeps_63 ?_
                    refine t_eq (y := (nI (fi ((k * 6) + i)))) rfl ?_
                    refine lv_iload_n hx hb d_Ta_keeps_64 rfl (lv_at hl 2 rfl) ?_
                    refine lv_iand hx hb d_Ta_keeps_65 ?_
                    refine t_eq (y := (nI ((fi ((k * 6) + i)) &&& (otF fi op tu n)))) (m_and _ _) ?_
                    refine z_eq (tgt := 82) hx hb (Nat.lt_of_le_of_lt Nat.and_le_left (Nat.lt_trans (hfi _) (by decide))) d_Ta_keeps_66 (by decide) (fun c_66 => ?_) (fun c_66 => ?_)
                    · have hno : ¬ ((op k).testBit i = true ∧ ¬ fi (k * 6 + i) &&& otF fi op tu n = 0) := by first | exact fun q => q.2 c_66 | exact fun q => absurd q.1 (by rw [c_49]; decide)
                      rw [show (kT kp fi op (otF fi op tu n) k i) = kT kp fi op (otF fi op tu n) k (i + 1) from kT_f hno] at hP hD
                      refine lv_iinc (v := (nI (i + 1))) (lv' := [(4, .int (nI (i + 1))), (3, .int (nI k)), (2, .int (nI (otF fi op tu n))), (0, .ref h), (1, .ref hp)]) hx hb d_Ta_keeps_82 hl (k := 0) rfl (by exact nI_1 _) (by decide) rfl (fun ls hl => ?_)
                      refine lv_goto (tgt := 31) hx hb d_Ta_keeps_85 (by decide) ?_
                      exact ih31 (i + 1) (by omega) (by omega) _ _ _ hP hD hS (lv_sub hl [0, 1, 2, 3, 4] rfl)
                    · refine lv_aload_n hx hb d_Ta_keeps_69 rfl (lv_at hl 4 rfl) ?_
                      refine r_get C0 hK hP 2 rfl rfl i_Pl 1 (by decide) wt_61 (fun _ h => h) rfl d_Ta_keeps_70 ?_
                      refine lv_iload_n hx hb d_Ta_keeps_73 rfl (lv_at hl 1 rfl) ?_
                      refine lv_dup2_11 hx hb d_Ta_keeps_74 rfl rfl ?_
                      refine r_ald C0 hK hP 4 rfl (by omega) (by decide) d_Ta_keeps_75 ?_
                      refine t_eq (y := (nI ((kT kp fi op (otF fi op tu n) k i) k))) rfl ?_
                      refine lv_iconst (v := (nI 1)) hx hb d_Ta_keeps_76 (by decide) ?_
                      refine lv_iload hx hb d_Ta_keeps_77 (lv_at hl 0 rfl) ?_
                      refine lv_ishl hx hb d_Ta_keeps_79 ?_
                      refine t_eq (y := (nI (1 * 2 ^ i))) (m_shl _ (by omega)) ?_
                      refine lv_ior hx hb d_Ta_keeps_80 ?_
                      refine t_eq (y := (nI (((kT kp fi op (otF fi op tu n) k i) k) ||| (1 * 2 ^ i)))) (m_or _ _) ?_
                      refine r_astN C0 hK hP hD hS 4 rfl (by omega) (by decide) d_Ta_keeps_81 (fun H locs hP hD hS => ?_)
                      have hP : va_P D cls [(h, .inr (3, [.int (nI kd), .int (nI n), .int (nI w), .int (nI ns), .int (nI hn), .int (nI hq), .ref ft, .int (nI tu)])), (ft, .inl (cI, 36, .inl (nA fi))), (hp, .inr (2, [.ref po, .ref pk, .ref pa, .ref pb, .ref pw, .ref ps, .int (nI tm)])), (po, .inl (cI, 6, .inl (nA op))), (pk, .inl (cI, 6, .inl (nA (va_up (kT kp fi op (otF fi op tu n) k i) k (((kT kp fi op (otF fi op tu n) k i) k) ||| (1 * 2 ^ i))))))] H := hP
                      have hD : va_D A [(h, .inr (3, [.int (nI kd), .int (nI n), .int (nI w), .int (nI ns), .int (nI hn), .int (nI hq), .ref ft, .int (nI tu)])), (ft, .inl (cI, 36, .inl (nA fi))), (hp, .inr (2, [.ref po, .ref pk, .ref pa, .ref pb, .ref pw, .ref ps, .int (nI tm)])), (po, .inl (cI, 6, .inl (nA op))), (pk, .inl (cI, 6, .inl (nA (va_up (kT kp fi op (otF fi op tu n) k i) k (((kT kp fi op (otF fi op tu n) k i) k) ||| (1 * 2 ^ i))))))] := hD
                      rw [show (va_up (kT kp fi op (otF fi op tu n) k i) k (((kT kp fi op (otF fi op tu n) k i) k) ||| (1 * 2 ^ i))) = kT kp fi op (otF fi op tu n) k (i + 1) from kT_t ⟨c_49, c_66⟩] at hP hD
                      refine lv_iinc (v := (nI (i + 1))) (lv' := [(4, .int (nI (i + 1))), (3, .int (nI k)), (2, .int (nI (otF fi op tu n))), (0, .ref h), (1, .ref hp)]) hx hb d_Ta_keeps_82 hl (k := 0) rfl (by exact nI_1 _) (by decide) rfl (fun ls hl => ?_)
                      refine lv_goto (tgt := 31) hx hb d_Ta_keeps_85 (by decide) ?_
                      exact ih31 (i + 1) (by omega) (by omega) _ _ _ hP hD hS (lv_sub hl [0, 1, 2, 3, 4] rfl)
            exact L31 (7) 0 (by omega) (by omega) _ _ _ hP hD hS (lv_sub hl [0, 1, 2, 3, 4] rfl)
    exact L14 (n + 1) 0 (by omega) (by omega) _ _ _ hP hD hS (lv_sub hl [0, 1, 2, 3] rfl)
  · refine lv_iconst (v := (nI 0)) hx hb d_Ta_keeps_10 (by decide) ?_
    exact ret_i C0 hr hlk hAe hS kp (⟨by rw [c_7]; rfl, by rw [if_pos c_7]⟩) (hP.sub [1, 2, 3, 4, 0] rfl) (hD.sub [1, 2, 3, 4, 0] (by decide) rfl) rfl (Nat.le_of_ble_eq_true rfl) (Nat.le_of_ble_eq_true rfl) d_Ta_keeps_11
