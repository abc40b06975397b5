theorem isIn_1 {x y z : Int32} (h : x < y) : nI 0 = bI (decide (y ≤ x) && decide (x ≤ z)) := by rw [decide_eq_false (i_nle h)]; rfl
theorem isIn_2 {x y z : Int32} (h : z < x) : nI 0 = bI (decide (y ≤ x) && decide (x ≤ z)) := by rw [decide_eq_false (p := x ≤ z) (i_nle h), Bool.and_false]; rfl
theorem isIn_3 {x y z : Int32} (h : ¬ x < y) (g : ¬ z < x) : nI 1 = bI (decide (y ≤ x) && decide (x ≤ z)) := by rw [decide_eq_true (i_nlt h), decide_eq_true (i_nlt g)]; rfl
theorem has_1 {a k : Nat} (h : ¬ a / 2 ^ k % 2 = 0) : nI 1 = bI (a.testBit k) := by
  rw [Nat.testBit_eq_decide_div_mod_eq, decide_eq_true (by omega)]; rfl
theorem has_0 {a k : Nat} (h : a / 2 ^ k % 2 = 0) : nI 0 = bI (a.testBit k) := by
  rw [Nat.testBit_eq_decide_div_mod_eq, decide_eq_false (by omega)]; rfl
set_option maxHeartbeats 4000000 in
set_option maxRecDepth 100000 in
theorem c_TC_isIn (l : Launch) (D : va_G) (cI : ClassId) (sz : Nat) (x : Int32) (y : Int32) (z : Int32)  : MetI l y_TC_isIn b_TC_isIn 3 (some .boolean) { frames := 0, cells := 0, slots := 0, locals := 0 } D cI [] sz [] [.int x, .int y, .int z] (fun (r : Int32) (u : Unit) => r = (bI (decide (y ≤ x) && decide (x ≤ z)))) (fun u : Unit => []) := by
  refine enter (by decide) (Nat.le_of_ble_eq_true rfl) ?_
  intro p e s m below meth c A ls C0 hr hlk hnm hK hsz hA hAe hP hD hS hl
  have hx := C0.1
  have hb := C0.2.1
  have hl : lv_has ls 3 [(0, .int x), (1, .int y), (2, .int z)] := hl
  refine lv_iload_n hx hb d_TC_isIn_0 rfl (lv_at hl 0 rfl) ?_
  refine lv_iload_n hx hb d_TC_isIn_1 rfl (lv_at hl 1 rfl) ?_
  refine lv_icmp_lt (tgt := 14) hx hb d_TC_isIn_2 (by decide) (fun c_2 => ?_) (fun c_2 => ?_)
  · refine lv_iconst (v := (nI 0)) hx hb d_TC_isIn_14 (by decide) ?_
    exact ret_i C0 hr hlk hAe hS () (by first | exact isIn_2 c_7 | exact isIn_3 c_2 c_7 | exact isIn_1 c_2) hP hD rfl (Nat.le_of_ble_eq_true rfl) (Nat.le_of_ble_eq_true rfl) d_TC_isIn_15
  · refine lv_iload_n hx hb d_TC_isIn_5 rfl (lv_at hl 0 rfl) ?_
    refine lv_iload_n hx hb d_TC_isIn_6 rfl (lv_at hl 2 rfl) ?_
    refine lv_icmp_gt (tgt := 14) hx hb d_TC_isIn_7 (by decide) (fun c_7 => ?_) (fun c_7 => ?_)
    · refine lv_iconst (v := (nI 0)) hx hb d_TC_isIn_14 (by decide) ?_
      exact ret_i C0 hr hlk hAe hS () (by first | exact isIn_2 c_7 | exact isIn_3 c_2 c_7 | exact isIn_1 c_2) hP hD rfl (Nat.le_of_ble_eq_true rfl) (Nat.le_of_ble_eq_true rfl) d_TC_isIn_15
    · refine lv_iconst (v := (nI 1)) hx hb d_TC_isIn_10 (by decide) ?_
      refine lv_goto (tgt := 15) hx hb d_TC_isIn_11 (by decide) ?_
      exact ret_i C0 hr hlk hAe hS () (by first | exact isIn_2 c_7 | exact isIn_3 c_2 c_7 | exact isIn_1 c_2) hP hD rfl (Nat.le_of_ble_eq_true rfl) (Nat.le_of_ble_eq_true rfl) d_TC_isIn_15
set_option maxHeartbeats 4000000 in
set_option maxRecDepth 100000 in
theorem c_TC_digit (l : Launch) (D : va_G) (cI : ClassId) (sz : Nat) (w : Nat) (k : Nat) (hw : w < 2147483648) (hk : k < 10) : MetI l y_TC_digit b_TC_digit 2 (some .int) { frames := 0, cells := 0, slots := 0, locals := 0 } D cI [] sz [] [.int (nI w), .int (nI k)] (fun (r : Int32) (u : Unit) => r = (nI (dgt w k))) (fun u : Unit => []) := by
  refine enter (by decide) (Nat.le_of_ble_eq_true rfl) ?_
  intro p e s m below meth c A ls C0 hr hlk hnm hK hsz hA hAe hP hD hS hl
  have hx := C0.1
  have hb := C0.2.1
  have hl : lv_has ls 2 [(0, .int (nI w)), (1, .int (nI k))] := hl
  refine lv_iload_n hx hb d_TC_digit_0 rfl (lv_at hl 0 rfl) ?_
  refine lv_iconst (v := (nI 3)) hx hb d_TC_digit_1 (by decide) ?_
  refine lv_iload_n hx hb d_TC_digit_2 rfl (lv_at hl 1 rfl) ?_
  refine lv_imul hx hb d_TC_digit_3 ?_
  refine t_eq (y := (nI (3 * k))) (pk_mul _ _) ?_
  refine lv_iushr (v := (nI (w / 2 ^ (3 * k)))) hx hb d_TC_digit_4 (m_ushr (by omega) (by omega)) ?_
  refine lv_bipush (v := (nI 7)) hx hb d_TC_digit_5 (by decide) ?_
  refine lv_iand hx hb d_TC_digit_7 ?_
  refine t_eq (y := (nI ((w / 2 ^ (3 * k)) % 8))) (m_and7 _) ?_
  exact ret_i C0 hr hlk hAe hS () rfl hP hD rfl (Nat.le_of_ble_eq_true rfl) (Nat.le_of_ble_eq_true rfl) d_TC_digit_8
set_option maxHeartbeats 4000000 in
set_option maxRecDepth 100000 in
theorem c_TC_has (l : Launch) (D : va_G) (cI : ClassId) (sz : Nat) (w : Nat) (k : Nat) (hw : w < 2147483648) (hk : k < 32) : MetI l y_TC_has b_TC_has 2 (some .boolean) { frames := 0, cells := 0, slots := 0, locals := 0 } D cI [] sz [] [.int (nI w), .int (nI k)] (fun (r : Int32) (u : Unit) => r = (bI (w.testBit k))) (fun u : Unit => []) := by
  refine enter (by decide) (Nat.le_of_ble_eq_true rfl) ?_
  intro p e s m below meth c A ls C0 hr hlk hnm hK hsz hA hAe hP hD hS hl
  have hx := C0.1
  have hb := C0.2.1
  have hl : lv_has ls 2 [(0, .int (nI w)), (1, .int (nI k))] := hl
  refine lv_iload_n hx hb d_TC_has_0 rfl (lv_at hl 0 rfl) ?_
  refine lv_iload_n hx hb d_TC_has_1 rfl (lv_at hl 1 rfl) ?_
  refine lv_iushr (v := (nI (w / 2 ^ k))) hx hb d_TC_has_2 (m_ushr (by omega) (by omega)) ?_
  refine lv_iconst (v := (nI 1)) hx hb d_TC_has_3 (by decide) ?_
  refine lv_iand hx hb d_TC_has_4 ?_
  refine t_eq (y := (nI ((w / 2 ^ k) % 2))) (m_and1 _) ?_
  refine z_eq (tgt := 12) hx hb (by omega) d_TC_has_5 (by decide) (fun c_5 => ?_) (fun c_5 => ?_)
  · refine lv_iconst (v := (nI 0)) hx hb d_TC_has_12 (by decide) ?_
    exact ret_i C0 hr hlk hAe hS () (by first | exact has_1 ‹_› | exact has_0 ‹_›) hP hD rfl (Nat.le_of_ble_eq_true rfl) (Nat.le_of_ble_eq_true rfl) d_TC_has_13
  · refine lv_iconst (v := (nI 1)) hx hb d_TC_has_8 (by decide) ?_
    refine lv_goto (tgt := 13) hx hb d_TC_has_9 (by decide) ?_
    exact ret_i C0 hr hlk hAe hS () (by first | exact has_1 ‹_› | exact has_0 ‹_›) hP hD rfl (Nat.le_of_ble_eq_true rfl) (Nat.le_of_ble_eq_true rfl) d_TC_has_13
