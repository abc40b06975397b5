theorem rowO_e {nm q w : Nat} {x y : Int32} (h : rowO nm x y = some (q, w)) : (1 ≤ q ∧ q ≤ 6) ∧ x = nI q ∧ y = nI w := by
  by_cases g : rowB nm x y = true
  · obtain ⟨q2, w2, h1, h2, h3, -, -, -, h4⟩ := rowO_s g
    rw [h] at h4
    cases h4
    exact ⟨h1, h2, h3⟩
  · rw [rowO_n (by simpa using g)] at h; cases h
theorem oEl_le {nm : Nat} {x y : Int32} (h : x ≤ nI 2) : oEl nm x y = none := by
  unfold oEl
  cases hr : rowO nm x y with
  | none => rfl
  | some t =>
    obtain ⟨h1, h2, -⟩ := rowO_e (q := t.1) (w := t.2) hr
    rw [h2] at h
    have := (nI_leI (by omega) (by decide)).mp h
    show (if _ then _ else _) = _
    rw [if_neg (by omega)]
theorem oOr_od {nm : Nat} {x y : Int32} {sf : Bool} (h : ¬ x - x / nI 2 * nI 2 = 0) : oOr nm x y sf = none := by
  unfold oOr
  cases hr : rowO nm x y with
  | none => rfl
  | some t =>
    obtain ⟨h1, h2, -⟩ := rowO_e (q := t.1) (w := t.2) hr
    rw [h2, pk_rem (by omega) (by decide) (by decide)] at h
    show (if _ then _ else _) = _
    rw [if_neg]
    intro q
    exact h (by rw [q]; rfl)
theorem ev_q {q : Nat} (hq : q ≤ 6) (h : nI q - nI q / nI 2 * nI 2 = 0) : q % 2 = 0 := by
  rw [pk_rem (by omega) (by decide) (by decide)] at h
  have := (nI_eq (a := q % 2) (b := 0) (by omega) (by decide)).mp h
  exact this
set_option maxHeartbeats 4000000 in
set_option maxRecDepth 100000 in
theorem c_M_element (l : Launch) (D : va_G) (cI : ClassId) (sz : Nat) (h : Nat) (ad : Nat → Nat) (nm : Nat) (mk : Nat) (rd : Nat) (cs : Nat) (ar : Nat → Nat → Nat) (x : Int32) (y : Int32) (hcs : cs ≤ 10) (hnm : nm ≤ 6) : MetI l y_M_element b_M_element 3 (some .int) { frames := 2, cells := 0, slots := 0, locals := 47 } D cI [] sz [(h, .inr (10, oM ad nm mk rd cs)), (ad 10, .inl (cI, 10, .inl (nA (ar 10)))), (ad 11, .inl (cI, 10, .inl (nA (ar 11)))), (ad 12, .inl (cI, 10, .inl (nA (ar 12)))), (ad 13, .inl (cI, 60, .inl (nA (ar 13)))), (ad 14, .inl (cI, 10, .inl (nA (ar 14)))), (ad 15, .inl (cI, 10, .inl (nA (ar 15)))), (ad 16, .inl (cI, 10, .inl (nA (ar 16)))), (ad 17, .inl (cI, 10, .inl (nA (ar 17))))] [.ref h, .int x, .int y] (fun (r : Int32) (u : Nat × (Nat → Nat → Nat)) => (r, u) = adS ar cs (oEl nm x y)) (fun u : Nat × (Nat → Nat → Nat) => [(h, .inr (10, oM ad nm mk rd u.1)), (ad 10, .inl (cI, 10, .inl (nA (u.2 10)))), (ad 11, .inl (cI, 10, .inl (nA (u.2 11)))), (ad 12, .inl (cI, 10, .inl (nA (u.2 12)))), (ad 13, .inl (cI, 60, .inl (nA (u.2 13)))), (ad 14, .inl (cI, 10, .inl (nA (u.2 14)))), (ad 15, .inl (cI, 10, .inl (nA (u.2 15)))), (ad 16, .inl (cI, 10, .inl (nA (u.2 16)))), (ad 17, .inl (cI, 10, .inl (nA (u.2 17))))]) := by
  refine enter (by decide) (Nat.le_of_ble_eq_true rfl) ?_
  intro p e s m below meth c A ls C0 hr hlk hnm hK hsz hA hAe hP hD hS hl
  have hx := C0.1
  have hb := C0.2.1
  have hl : lv_has ls 3 [(0, .ref h), (1, .int x), (2, .int y)] := hl
  refine lv_iload_n hx hb d_M_element_0 rfl (lv_at hl 1 rfl) ?_
  refine lv_iconst (v := (nI 2)) hx hb d_M_element_1 (by decide) ?_
  refine lv_icmp_le (tgt := 27) hx hb d_M_element_2 (by decide) (fun c_2 => ?_) (fun c_2 => ?_)
  · refine lv_bipush (v := (-2)) hx hb d_M_element_27 (by decide) ?_
    exact ret_i C0 hr hlk hAe hS (cs, ar) (adS_n (by first | exact oEl_le c_2 | (unfold oEl; rw [hro]; rfl))) hP hD rfl (Nat.le_of_ble_eq_true rfl) (Nat.le_of_ble_eq_true rfl) d_M_element_29
  · refine lv_aload_n hx hb d_M_element_5 rfl (lv_at hl 0 rfl) ?_
    refine lv_iload_n hx hb d_M_element_6 rfl (lv_at hl 1 rfl) ?_
    refine lv_iload_n hx hb d_M_element_7 rfl (lv_at hl 2 rfl) ?_
    refine call_i (rm := { frames := 1, cells := 0, slots := 0, locals := 22 }) hS hP hD hA (spl_mk (wc := [(h, .inr (10, oM ad nm mk rd cs))]) (wr := [(ad 10, .inl (cI, 10, .inl (nA (ar 10)))), (ad 11, .inl (cI, 10, .inl (nA (ar 11)))), (ad 12, .inl (cI, 10, .inl (nA (ar 12)))), (ad 13, .inl (cI, 60, .inl (nA (ar 13)))), (ad 14, .inl (cI, 10, .inl (nA (ar 14)))), (ad 15, .inl (cI, 10, .inl (nA (ar 15)))), (ad 16, .inl (cI, 10, .inl (nA (ar 16)))), (ad 17, .inl (cI, 10, .inl (nA (ar 17))))]) [0] [1, 2, 3, 4, 5, 6, 7, 8] rfl rfl (by decide)) (run_v (n := 2) (As := [.int x, .int y]) (rest := []) (q0 := 0) (ci := 10) C0 (hK.sub [] rfl) (c_M_isRow l D cI s.heap.size h ad nm mk rd cs x y (by omega)) rfl rfl wt_766 wt_4 wt_763 wt_765 wp_18 (by decide +kernel) ⟨Nat.le_of_ble_eq_true rfl, Nat.le_of_ble_eq_true rfl⟩ rfl hl.1 rfl (Nat.le_of_ble_eq_true rfl) d_M_element_8 ⟨Nat.le_of_ble_eq_true rfl, Nat.le_of_ble_eq_true rfl⟩) (fun r_8 _u8 H locs hw_8 hP hD hS => ?_)
    have hP : va_P D cls [(ad 10, .inl (cI, 10, .inl (nA (ar 10)))), (ad 11, .inl (cI, 10, .inl (nA (ar 11)))), (ad 12, .inl (cI, 10, .inl (nA (ar 12)))), (ad 13, .inl (cI, 60, .inl (nA (ar 13)))), (ad 14, .inl (cI, 10, .inl (nA (ar 14)))), (ad 15, .inl (cI, 10, .inl (nA (ar 15)))), (ad 16, .inl (cI, 10, .inl (nA (ar 16)))), (ad 17, .inl (cI, 10, .inl (nA (ar 17)))), (h, .inr (10, oM ad nm mk rd cs))] H := hP
    have hD : va_D A [(ad 10, .inl (cI, 10, .inl (nA (ar 10)))), (ad 11, .inl (cI, 10, .inl (nA (ar 11)))), (ad 12, .inl (cI, 10, .inl (nA (ar 12)))), (ad 13, .inl (cI, 60, .inl (nA (ar 13)))), (ad 14, .inl (cI, 10, .inl (nA (ar 14)))), (ad 15, .inl (cI, 10, .inl (nA (ar 15)))), (ad 16, .inl (cI, 10, .inl (nA (ar 16)))), (ad 17, .inl (cI, 10, .inl (nA (ar 17)))), (h, .inr (10, oM ad nm mk rd cs))] := hD
    subst hw_8
    refine y_eq (tgt := 27) hx hb d_M_element_11 (by decide) (fun c_11 => ?_) (fun c_11 => ?_)
    · have hro := rowO_n c_11
      refine lv_bipush (v := (-2)) hx hb d_M_element_27 (by decide) ?_
      exact ret_i C0 hr hlk hAe hS (cs, ar) (adS_n (by first | exact oEl_le c_2 | (unfold oEl; rw [hro]; rfl))) (hP.sub [8, 0, 1, 2, 3, 4, 5, 6, 7] rfl) (hD.sub [8, 0, 1, 2, 3, 4, 5, 6, 7] (by decide) rfl) rfl (Nat.le_of_ble_eq_true rfl) (Nat.le_of_ble_eq_true rfl) d_M_element_29
    · obtain ⟨q, w, hq, hxq, hyw, hwq, hw18, hrw, hro⟩ := rowO_s c_11
      have hl : lv_has ls 3 [(0, .ref h), (1, .int (nI q)), (2, .int y)] := by rw [← hxq]; exact hl
      have hl : lv_has ls 3 [(0, .ref h), (1, .int (nI q)), (2, .int (nI w))] := by rw [← hyw]; exact hl
      have hq3 : 3 ≤ q := Nat.lt_of_not_le (fun z => c_2 (by rw [hxq]; exact nI_le z (by decide)))
      refine lv_aload_n hx hb d_M_element_14 rfl (lv_at hl 0 rfl) ?_
      refine lv_iconst (v := (nI 2)) hx hb d_M_element_15 (by decide) ?_
      refine lv_iload_n hx hb d_M_element_16 rfl (lv_at hl 1 rfl) ?_
      refine lv_iload_n hx hb d_M_element_17 rfl (lv_at hl 2 rfl) ?_
      refine lv_iconst (v := (nI 0)) hx hb d_M_element_18 (by decide) ?_
      refine lv_iconst (v := (nI 0)) hx hb d_M_element_19 (by decide) ?_
      refine lv_iconst (v := (nI 0)) hx hb d_M_element_20 (by decide) ?_
      refine call_i (rm := { frames := 0, cells := 0, slots := 0, locals := 0 }) hS hP hD hA (spl_mk (wc := [(h, .inr (10, oM ad nm mk rd cs)), (ad 10, .inl (cI, 10, .inl (nA (ar 10)))), (ad 11, .inl (cI, 10, .inl (nA (ar 11)))), (ad 12, .inl (cI, 10, .inl (nA (ar 12)))), (ad 13, .inl (cI, 60, .inl (nA (ar 13)))), (ad 14, .inl (cI, 10, .inl (nA (ar 14)))), (ad 15, .inl (cI, 10, .inl (nA (ar 15)))), (ad 16, .inl (cI, 10, .inl (nA (ar 16)))), (ad 17, .inl (cI, 10, .inl (nA (ar 17))))]) (wr := []) [8, 0, 1, 2, 3, 4, 5, 6, 7] [] rfl rfl (by decide)) (run_v (n := 6) (As := [.int (nI 2), .int (nI q), .int (nI w), .int (nI 0), .int (nI 0), .int (nI 0)]) (rest := []) (q0 := 0) (ci := 10) C0 (hK.sub [] rfl) (c_M_add l D cI H.size h ad nm mk rd cs ar 2 q w 0 0 0 (by omega) (by omega) (by omega)) rfl rfl wt_770 wt_4 wt_767 wt_769 wp_19 (by decide +kernel) ⟨Nat.le_of_ble_eq_true rfl, Nat.le_of_ble_eq_true rfl⟩ rfl hl.1 rfl (Nat.le_of_ble_eq_true rfl) d_M_element_21 ⟨Nat.le_of_ble_eq_true rfl, Nat.le_of_ble_eq_true rfl⟩) (fun r_21 u_21 H locs hw_21 hP hD hS => ?_)
      have hP : va_P D cls [(h, .inr (10, oM ad nm mk rd u_21.1)), (ad 10, .inl (cI, 10, .inl (nA (u_21.2 10)))), (ad 11, .inl (cI, 10, .inl (nA (u_21.2 11)))), (ad 12, .inl (cI, 10, .inl (nA (u_21.2 12)))), (ad 13, .inl (cI, 60, .inl (nA (u_21.2 13)))), (ad 14, .inl (cI, 10, .inl (nA (u_21.2 14)))), (ad 15, .inl (cI, 10, .inl (nA (u_21.2 15)))), (ad 16, .inl (cI, 10, .inl (nA (u_21.2 16)))), (ad 17, .inl (cI, 10, .inl (nA (u_21.2 17))))] H := hP
      have hD : va_D A [(h, .inr (10, oM ad nm mk rd u_21.1)), (ad 10, .inl (cI, 10, .inl (nA (u_21.2 10)))), (ad 11, .inl (cI, 10, .inl (nA (u_21.2 11)))), (ad 12, .inl (cI, 10, .inl (nA (u_21.2 12)))), (ad 13, .inl (cI, 60, .inl (nA (u_21.2 13)))), (ad 14, .inl (cI, 10, .inl (nA (u_21.2 14)))), (ad 15, .inl (cI, 10, .inl (nA (u_21.2 15)))), (ad 16, .inl (cI, 10, .inl (nA (u_21.2 16)))), (ad 17, .inl (cI, 10, .inl (nA (u_21.2 17))))] := hD
      refine lv_goto (tgt := 29) hx hb d_M_element_24 (by decide) ?_
      exact ret_i C0 hr hlk hAe hS u_21 (adS_s (by unfold oEl; rw [hro]; show (if _ then _ else _) = _; rw [if_pos hq3] <;> rfl) hw_21) hP hD rfl (Nat.le_of_ble_eq_true rfl) (Nat.le_of_ble_eq_true rfl) d_M_element_29
set_option maxHeartbeats 4000000 in
set_option maxRecDepth 100000 in
theorem c_M_order (l : Launch) (D : va_G) (cI : ClassId) (sz : Nat) (h : Nat) (ad : Nat → Nat) (nm : Nat) (mk : Nat) (rd : Nat) (cs : Nat) (ar : Nat → Nat → Nat) (x : Int32) (y : Int32) (sf : Bool) (hcs : cs ≤ 10) (hnm : nm ≤ 6) : MetI l y_M_order b_M_order 4 (some .int) { frames := 2, cells := 0, slots := 0, locals := 47 } D cI [] sz [(h, .inr (10, oM ad nm mk rd cs)), (ad 10, .inl (cI, 10, .inl (nA (ar 10)))), (ad 11, .inl (cI, 10, .inl (nA (ar 11)))), (ad 12, .inl (cI, 10, .inl (nA (ar 12)))), (ad 13, .inl (cI, 60, .inl (nA (ar 13)))), (ad 14, .inl (cI, 10, .inl (nA (ar 14)))), (ad 15, .inl (cI, 10, .inl (nA (ar 15)))), (ad 16, .inl (cI, 10, .inl (nA (ar 16)))), (ad 17, .inl (cI, 10, .inl (nA (ar 17))))] [.ref h, .int x, .int y, .int (bI sf)] (fun (r : Int32) (u : Nat × (Nat → Nat → Nat)) => (r, u) = adS ar cs (oOr nm x y sf)) (fun u : Nat × (Nat → Nat → Nat) => [(h, .inr (10, oM ad nm mk rd u.1)), (ad 10, .inl (cI, 10, .inl (nA (u.2 10)))), (ad 11, .inl (cI, 10, .inl (nA (u.2 11)))), (ad 12, .inl (cI, 10, .inl (nA (u.2 12)))), (ad 13, .inl (cI, 60, .inl (nA (u.2 13)))), (ad 14, .inl (cI, 10, .inl (nA (u.2 14)))), (ad 15, .inl (cI, 10, .inl (nA (u.2 15)))), (ad 16, .inl (cI, 10, .inl (nA (u.2 16)))), (ad 17, .inl (cI, 10, .inl (nA (u.2 17))))]) := by
  refine enter (by decide) (Nat.le_of_ble_eq_true rfl) ?_
  intro p e s m below meth c A ls C0 hr hlk hnm hK hsz hA hAe hP hD hS hl
  have hx := C0.1
  have hb := C0.2.1
  have hl : lv_has ls 4 [(0, .ref h), (1, .int x), (2, .int y), (3, .int (bI sf))] := hl
  refine lv_iload_n hx hb d_M_order_0 rfl (lv_at hl 1 rfl) ?_
  refine lv_iconst (v := (nI 2)) hx hb d_M_order_1 (by decide) ?_
  refine lv_irem hx hb d_M_order_2 (by decide) ?_
  refine lv_if_ne (tgt := 36) hx hb d_M_order_3 (by decide) (fun c_3 => ?_) (fun c_3 => ?_)
  · refine lv_bipush (v := (-2)) hx hb d_M_order_36 (by decide) ?_
    exact ret_i C0 hr hlk hAe hS (cs, ar) (adS_n (by first | exact oOr_od c_3 | (unfold oOr; rw [hro]; rfl))) hP hD rfl (Nat.le_of_ble_eq_true rfl) (Nat.le_of_ble_eq_true rfl) d_M_order_38
  · refine lv_aload_n hx hb d_M_order_6 rfl (lv_at hl 0 rfl) ?_
    refine lv_iload_n hx hb d_M_order_7 rfl (lv_at hl 1 rfl) ?_
    refine lv_iload_n hx hb d_M_order_8 rfl (lv_at hl 2 rfl) ?_
    refine call_i (rm := { frames := 1, cells := 0, slots := 0, locals := 22 }) hS hP hD hA (spl_mk (wc := [(h, .inr (10, oM ad nm mk rd cs))]) (wr := [(ad 10, .inl (cI, 10, .inl (nA (ar 10)))), (ad 11, .inl (cI, 10, .inl (nA (ar 11)))), (ad 12, .inl (cI, 10, .inl (nA (ar 12)))), (ad 13, .inl (cI, 60, .inl (nA (ar 13)))), (ad 14, .inl (cI, 10, .inl (nA (ar 14)))), (ad 15, .inl (cI, 10, .inl (nA (ar 15)))), (ad 16, .inl (cI, 10, .inl (nA (ar 16)))), (ad 17, .inl (cI, 10, .inl (nA (ar 17))))]) [0] [1, 2, 3, 4, 5, 6, 7, 8] rfl rfl (by decide)) (run_v (n := 2) (As := [.int x, .int y]) (rest := []) (q0 := 0) (ci := 10) C0 (hK.sub [] rfl) (c_M_isRow l D cI s.heap.size h ad nm mk rd cs x y (by omega)) rfl rfl wt_766 wt_4 wt_763 wt_765 wp_18 (by decide +kernel) ⟨Nat.le_of_ble_eq_true rfl, Nat.le_of_ble_eq_true rfl⟩ rfl hl.1 rfl (Nat.le_of_ble_eq_true rfl) d_M_order_9 ⟨Nat.le_of_ble_eq_true rfl, Nat.le_of_ble_eq_true rfl⟩) (fun r_9 _u9 H locs hw_9 hP hD hS => ?_)
    have hP : va_P D cls [(ad 10, .inl (cI, 10, .inl (nA (ar 10)))), (ad 11, .inl (cI, 10, .inl (nA (ar 11)))), (ad 12, .inl (cI, 10, .inl (nA (ar 12)))), (ad 13, .inl (cI, 60, .inl (nA (ar 13)))), (ad 14, .inl (cI, 10, .inl (nA (ar 14)))), (ad 15, .inl (cI, 10, .inl (nA (ar 15)))), (ad 16, .inl (cI, 10, .inl (nA (ar 16)))), (ad 17, .inl (cI, 10, .inl (nA (ar 17)))), (h, .inr (10, oM ad nm mk rd cs))] H := hP
    have hD : va_D A [(ad 10, .inl (cI, 10, .inl (nA (ar 10)))), (ad 11, .inl (cI, 10, .inl (nA (ar 11)))), (ad 12, .inl (cI, 10, .inl (nA (ar 12)))), (ad 13, .inl (cI, 60, .inl (nA (ar 13)))), (ad 14, .inl (cI, 10, .inl (nA (ar 14)))), (ad 15, .inl (cI, 10, .inl (nA (ar 15)))), (ad 16, .inl (cI, 10, .inl (nA (ar 16)))), (ad 17, .inl (cI, 10, .inl (nA (ar 17)))), (h, .inr (10, oM ad nm mk rd cs))] := hD
    subst hw_9
    refine y_eq (tgt := 36) hx hb d_M_order_12 (by decide) (fun c_12 => ?_) (fun c_12 => ?_)
    · have hro := rowO_n c_12
      refine lv_bipush (v := (-2)) hx hb d_M_order_36 (by decide) ?_
      exact ret_i C0 hr hlk hAe hS (cs, ar) (adS_n (by first | exact oOr_od c_3 | (unfold oOr; rw [hro]; rfl))) (hP.sub [8, 0, 1, 2, 3, 4, 5, 6, 7] rfl) (hD.sub [8, 0, 1, 2, 3, 4, 5, 6, 7] (by decide) rfl) rfl (Nat.le_of_ble_eq_true rfl) (Nat.le_of_ble_eq_true rfl) d_M_order_38
    · obtain ⟨q, w, hq, hxq, hyw, hwq, hw18, hrw, hro⟩ := rowO_s c_12
      have hl : lv_has ls 4 [(0, .ref h), (1, .int (nI q)), (2, .int y), (3, .int (bI sf))] := by rw [← hxq]; exact hl
      have hl : lv_has ls 4 [(0, .ref h), (1, .int (nI q)), (2, .int (nI w)), (3, .int (bI sf))] := by rw [← hyw]; exact hl
      have hqe : q % 2 = 0 := by rw [hxq] at c_3; exact ev_q (by omega) c_3
      refine lv_aload_n hx hb d_M_order_15 rfl (lv_at hl 0 rfl) ?_
      refine lv_iconst (v := (nI 3)) hx hb d_M_order_16 (by decide) ?_
      refine lv_iload_n hx hb d_M_order_17 rfl (lv_at hl 1 rfl) ?_
      refine lv_iload_n hx hb d_M_order_18 rfl (lv_at hl 2 rfl) ?_
      refine lv_iload_n hx hb d_M_order_19 rfl (lv_at hl 3 rfl) ?_
      refine y_eq (tgt := 27) hx hb d_M_order_20 (by decide) (fun c_20 => ?_) (fun c_20 => ?_)
      · have hsf := c_20
        refine lv_iconst (v := (nI 0)) hx hb d_M_order_27 (by decide) ?_
        refine lv_iconst (v := (nI 0)) hx hb d_M_order_28 (by decide) ?_
        refine lv_iconst (v := (nI 0)) hx hb d_M_order_29 (by decide) ?_
        refine call_i (rm := { frames := 0, cells := 0, slots := 0, locals := 0 }) hS hP hD hA (spl_mk (wc := [(h, .inr (10, oM ad nm mk rd cs)), (ad 10, .inl (cI, 10, .inl (nA (ar 10)))), (ad 11, .inl (cI, 10, .inl (nA (ar 11)))), (ad 12, .inl (cI, 10, .inl (nA (ar 12)))), (ad 13, .inl (cI, 60, .inl (nA (ar 13)))), (ad 14, .inl (cI, 10, .inl (nA (ar 14)))), (ad 15, .inl (cI, 10, .inl (nA (ar 15)))), (ad 16, .inl (cI, 10, .inl (nA (ar 16)))), (ad 17, .inl (cI, 10, .inl (nA (ar 17))))]) (wr := []) [8, 0, 1, 2, 3, 4, 5, 6, 7] [] rfl rfl (by decide)) (run_v (n := 6) (As := [.int (nI 3), .int (nI q), .int (nI w), .int (nI 0), .int (nI 0), .int (nI 0)]) (rest := []) (q0 := 0) (ci := 10) C0 (hK.sub [] rfl) (c_M_add l D cI H.size h ad nm mk rd cs ar 3 q w 0 0 0 (by omega) (by omega) (by omega)) rfl rfl wt_770 wt_4 wt_767 wt_769 wp_19 (by decide +kernel) ⟨Nat.le_of_ble_eq_true rfl, Nat.le_of_ble_eq_true rfl⟩ rfl hl.1 rfl (Nat.le_of_ble_eq_true rfl) d_M_order_30 ⟨Nat.le_of_ble_eq_true rfl, Nat.le_of_ble_eq_true rfl⟩) (fun r_30 u_30 H locs hw_30 hP hD hS => ?_)
        have hP : va_P D cls [(h, .inr (10, oM ad nm mk rd u_30.1)), (ad 10, .inl (cI, 10, .inl (nA (u_30.2 10)))), (ad 11, .inl (cI, 10, .inl (nA (u_30.2 11)))), (ad 12, .inl (cI, 10, .inl (nA (u_30.2 12)))), (ad 13, .inl (cI, 60, .inl (nA (u_30.2 13)))), (ad 14, .inl (cI, 10, .inl (nA (u_30.2 14)))), (ad 15, .inl (cI, 10, .inl (nA (u_30.2 15)))), (ad 16, .inl (cI, 10, .inl (nA (u_30.2 16)))), (ad 17, .inl (cI, 10, .inl (nA (u_30.2 17))))] H := hP
        have hD : va_D A [(h, .inr (10, oM ad nm mk rd u_30.1)), (ad 10, .inl (cI, 10, .inl (nA (u_30.2 10)))), (ad 11, .inl (cI, 10, .inl (nA (u_30.2 11)))), (ad 12, .inl (cI, 10, .inl (nA (u_30.2 12)))), (ad 13, .inl (cI, 60, .inl (nA (u_30.2 13)))), (ad 14, .inl (cI, 10, .inl (nA (u_30.2 14)))), (ad 15, .inl (cI, 10, .inl (nA (u_30.2 15)))), (ad 16, .inl (cI, 10, .inl (nA (u_30.2 16)))), (ad 17, .inl (cI, 10, .inl (nA (u_30.2 17))))] := hD
        refine lv_goto (tgt := 38) hx hb d_M_order_33 (by decide) ?_
        exact ret_i C0 hr hlk hAe hS u_30 (adS_s (by unfold oOr; rw [hro]; show (if _ then _ else _) = _; rw [if_pos hqe, hsf] <;> rfl) hw_30) hP hD rfl (Nat.le_of_ble_eq_true rfl) (Nat.le_of_ble_eq_true rfl) d_M_order_38
      · have hsf := c_20
        refine lv_iconst (v := (nI 1)) hx hb d_M_order_23 (by decide) ?_
        refine lv_goto (tgt := 28) hx hb d_M_order_24 (by decide) ?_
        refine lv_iconst (v := (nI 0)) hx hb d_M_order_28 (by decide) ?_
        refine lv_iconst (v := (nI 0)) hx hb d_M_order_29 (by decide) ?_
        refine call_i (rm := { frames := 0, cells := 0, slots := 0, locals := 0 }) hS hP hD hA (spl_mk (wc := [(h, .inr (10, oM ad nm mk rd cs)), (ad 10, .inl (cI, 10, .inl (nA (ar 10)))), (ad 11, .inl (cI, 10, .inl (nA (ar 11)))), (ad 12, .inl (cI, 10, .inl (nA (ar 12)))), (ad 13, .inl (cI, 60, .inl (nA (ar 13)))), (ad 14, .inl (cI, 10, .inl (nA (ar 14)))), (ad 15, .inl (cI, 10, .inl (nA (ar 15)))), (ad 16, .inl (cI, 10, .inl (nA (ar 16)))), (ad 17, .inl (cI, 10, .inl (nA (ar 17))))]) (wr := []) [8, 0, 1, 2, 3, 4, 5, 6, 7] [] rfl rfl (by decide)) (run_v (n := 6) (As := [.int (nI 3), .int (nI q), .int (nI w), .int (nI 1), .int (nI 0), .int (nI 0)]) (rest := []) (q0 := 0) (ci := 10) C0 (hK.sub [] rfl) (c_M_add l D cI H.size h ad nm mk rd cs ar 3 q w 1 0 0 (by omega) (by omega) (by omega)) rfl rfl wt_770 wt_4 wt_767 wt_769 wp_19 (by decide +kernel) ⟨Nat.le_of_ble_eq_true rfl, Nat.le_of_ble_eq_true rfl⟩ rfl hl.1 rfl (Nat.le_of_ble_eq_true rfl) d_M_order_30 ⟨Nat.le_of_ble_eq_true rfl, Nat.le_of_ble_eq_true rfl⟩) (fun r_30 u_30 H locs hw_30 hP hD hS => ?_)
        have hP : va_P D cls [(h, .inr (10, oM ad nm mk rd u_30.1)), (ad 10, .inl (cI, 10, .inl (nA (u_30.2 10)))), (ad 11, .inl (cI, 10, .inl (nA (u_30.2 11)))), (ad 12, .inl (cI, 10, .inl (nA (u_30.2 12)))), (ad 13, .inl (cI, 60, .inl (nA (u_30.2 13)))), (ad 14, .inl (cI, 10, .inl (nA (u_30.2 14)))), (ad 15, .inl (cI, 10, .inl (nA (u_30.2 15)))), (ad 16, .inl (cI, 10, .inl (nA (u_30.2 16)))), (ad 17, .inl (cI, 10, .inl (nA (u_30.2 17))))] H := hP
        have hD : va_D A [(h, .inr (10, oM ad nm mk rd u_30.1)), (ad 10, .inl (cI, 10, .inl (nA (u_30.2 10)))), (ad 11, .inl (cI, 10, .inl (nA (u_30.2 11)))), (ad 12, .inl (cI, 10, .inl (nA (u_30.2 12)))), (ad 13, .inl (cI, 60, .inl (nA (u_30.2 13)))), (ad 14, .inl (cI, 10, .inl (nA (u_30.2 14)))), (ad 15, .inl (cI, 10, .inl (nA (u_30.2 15)))), (ad 16, .inl (cI, 10, .inl (nA (u_30.2 16)))), (ad 17, .inl (cI, 10, .inl (nA (u_30.2 17))))] := hD
        refine lv_goto (tgt := 38) hx hb d_M_order_33 (by decide) ?_
        exact ret_i C0 hr hlk hAe hS u_30 (adS_s (by unfold oOr; rw [hro]; show (if _ then _ else _) = _; rw [if_pos hqe, hsf] <;> rfl) hw_30) hP hD rfl (Nat.le_of_ble_eq_true rfl) (Nat.le_of_ble_eq_true rfl) d_M_order_38
def oTu (ki wi : Nat → Nat) (cs : Nat) (x y : Int32) : Option (Nat × Nat) := (ixN x cs).bind (fun j => if ki j = 0 ∧ wordB y (wi j) true = true then (ixN y (2 ^ (3 * wi j))).map (fun w => (j, w)) else none)
def tuS (tu mn : Nat → Nat) (o : Option (Nat × Nat)) : Int32 × (Nat → Nat) × (Nat → Nat) := match o with
  | none => (-2, tu, mn)
  | some t => if mn t.1 = 20 then (-3, tu, mn) else (nI (mn t.1 + 1), va_up tu (20 * t.1 + mn t.1) t.2, va_up mn t.1 (mn t.1 + 1))
theorem of_t {x : Int32} {cs kd : Nat} {ki : Nat → Nat} (hcs : cs ≤ 10) (h : ((ixN x cs).elim false (fun j => decide (ki j = kd))) = true) : ∃ j, j < cs ∧ x = nI j ∧ ixN x cs = some j ∧ ki j = kd := by
  by_cases g : 0 ≤ x.toInt ∧ x.toInt < (cs : Int)
  · obtain ⟨j, h1, h2, h3⟩ := ix_of (x := x) (m := cs) (by omega) g
    rw [h3] at h
    exact ⟨j, h1, h2, h3, of_decide_eq_true h⟩
  · rw [ix_none g] at h; cases h
theorem of_f {x : Int32} {cs kd : Nat} {ki : Nat → Nat} (h : ((ixN x cs).elim false (fun j => decide (ki j = kd))) = false) : ∀ j, ixN x cs = some j → ¬ ki j = kd := fun j e => by
  rw [e] at h
  exact of_decide_eq_false h
theorem word_t {x : Int32} {m : Nat} {sf : Bool} (hm : m ≤ 6) (h : wordB x m sf = true) : ∃ w, w < 2 ^ (3 * m) ∧ w < 262144 ∧ x = nI w ∧ ixN x (2 ^ (3 * m)) = some w ∧ allB (fun k => okD sf (dgt w k)) m = true := by
  have hp := p18 hm
  by_cases g : 0 ≤ x.toInt ∧ x.toInt < ((2 ^ (3 * m) : Nat) : Int)
  · obtain ⟨w, h1, h2, h3⟩ := ix_of (x := x) (m := 2 ^ (3 * m)) (by omega) g
    rw [wordB_s h3] at h
    exact ⟨w, h1, by omega, h2, h3, h⟩
  · rw [wordB_n (ix_none g)] at h; cases h
theorem oTu_n1 {ki wi : Nat → Nat} {cs : Nat} {x y : Int32} (h : ∀ j, ixN x cs = some j → ¬ ki j = 0) : oTu ki wi cs x y = none := by
  unfold oTu
  cases hx : ixN x cs with
  | none => rfl
  | some j => show (if _ then _ else _) = _; rw [if_neg (fun q => h j hx q.1)]
theorem oTu_n2 {ki wi : Nat → Nat} {cs j : Nat} {x y : Int32} (hx : ixN x cs = some j) (h : wordB y (wi j) true = false) : oTu ki wi cs x y = none := by
  unfold oTu
  rw [hx]
  show (if _ then _ else _) = _
  rw [if_neg (fun q => by rw [h] at q; exact absurd q.2 (by decide))]
theorem oTu_s {ki wi : Nat → Nat} {cs j w : Nat} {x y : Int32} (hx : ixN x cs = some j) (hk : ki j = 0) (h : wordB y (wi j) true = true) (hw : ixN y (2 ^ (3 * wi j)) = some w) : oTu ki wi cs x y = some (j, w) := by
  unfold oTu
  rw [hx]
  show (if _ then _ else _) = _
  rw [if_pos ⟨hk, h⟩, hw]
  rfl
set_option maxHeartbeats 4000000 in
set_option maxRecDepth 100000 in
theorem c_M_tuple (l : Launch) (D : va_G) (cI : ClassId) (sz : Nat) (h : Nat) (ad : Nat → Nat) (nm : Nat) (mk : Nat) (rd : Nat) (cs : Nat) (ki : Nat → Nat) (wi : Nat → Nat) (mn : Nat → Nat) (tu : Nat → Nat) (x : Int32) (y : Int32) (hcs : cs ≤ 10) (hki : ∀ j, ki j ≤ 6) (hwi : ∀ j, wi j ≤ 6) (hmn : ∀ j, j < cs → ki j = 0 → mn j ≤ 20) : MetI l y_M_tuple b_M_tuple 3 (some .int) { frames := 2, cells := 0, slots := 0, locals := 44 } D cI [] sz [(h, .inr (10, oM ad nm mk rd cs)), (ad 10, .inl (cI, 10, .inl (nA ki))), (ad 11, .inl (cI, 10, .inl (nA wi))), (ad 17, .inl (cI, 10, .inl (nA mn))), (ad 18, .inl (cI, 200, .inl (nA tu)))] [.ref h, .int x, .int y] (fun (r : Int32) (u : (Nat → Nat) × (Nat → Nat)) => (r, u) = tuS tu mn (oTu ki wi cs x y)) (fun u : (Nat → Nat) × (Nat → Nat) => [(h, .inr (10, oM ad nm mk rd cs)), (ad 10, .inl (cI, 10, .inl (nA ki))), (ad 11, .inl (cI, 10, .inl (nA wi))), (ad 17, .inl (cI, 10, .inl (nA u.2))), (ad 18, .inl (cI, 200, .inl (nA u.1)))]) := by
  refine enter (by decide) (Nat.le_of_ble_eq_true rfl) ?_
  intro p e s m below meth c A ls C0 hr hlk hnm hK hsz hA hAe hP hD hS hl
  have hx := C0.1
  have hb := C0.2.1
  have hl : lv_has ls 3 [(0, .ref h), (1, .int x), (2, .int y)] := hl
  refine lv_aload_n hx hb d_M_tuple_0 rfl (lv_at hl 0 rfl) ?_
  refine lv_iload_n hx hb d_M_tuple_1 rfl (lv_at hl 1 rfl) ?_
  refine lv_iconst (v := (nI 0)) hx hb d_M_tuple_2 (by decide) ?_
  refine call_i (rm := { frames := 1, cells := 0, slots := 0, locals := 22 }) hS hP hD hA (spl_mk (wc := [(h, .inr (10, oM ad nm mk rd cs)), (ad 10, .inl (cI, 10, .inl (nA ki)))]) (wr := [(ad 11, .inl (cI, 10, .inl (nA wi))), (ad 17, .inl (cI, 10, .inl (nA mn))), (ad 18, .inl (cI, 200, .inl (nA tu)))]) [0, 1] [2, 3, 4] rfl rfl (by decide)) (run_v (n := 2) (As := [.int x, .int (nI 0)]) (rest := []) (q0 := 0) (ci := 10) C0 (hK.sub [] rfl) (c_M_isOf l D cI s.heap.size h ad nm mk rd cs ki x 0 hcs hki (by decide)) rfl rfl wt_778 wt_4 wt_775 wt_777 wp_20 (by decide +kernel) ⟨Nat.le_of_ble_eq_true rfl, Nat.le_of_ble_eq_true rfl⟩ rfl hl.1 rfl (Nat.le_of_ble_eq_true rfl) d_M_tuple_3 ⟨Nat.le_of_ble_eq_true rfl, Nat.le_of_ble_eq_true rfl⟩) (fun r_3 _u3 H locs hw_3 hP hD hS => ?_)
  have hP : va_P D cls [(ad 11, .inl (cI, 10, .inl (nA wi))), (ad 17, .inl (cI, 10, .inl (nA mn))), (ad 18, .inl (cI, 200, .inl (nA tu))), (h, .inr (10, oM ad nm mk rd cs)), (ad 10, .inl (cI, 10, .inl (nA ki)))] H := hP
  have hD : va_D A [(ad 11, .inl (cI, 10, .inl (nA wi))), (ad 17, .inl (cI, 10, .inl (nA mn))), (ad 18, .inl (cI, 200, .inl (nA tu))), (h, .inr (10, oM ad nm mk rd cs)), (ad 10, .inl (cI, 10, .inl (nA ki)))] := hD
  subst hw_3
  refine y_eq (tgt := 23) hx hb d_M_tuple_6 (by decide) (fun c_6 => ?_) (fun c_6 => ?_)
  · have hof := of_f c_6
    refine lv_bipush (v := (-2)) hx hb d_M_tuple_23 (by decide) ?_
    exact ret_i C0 hr hlk hAe hS (tu, mn) (by first | (rw [oTu_n2 hij c_20]; rfl) | (rw [oTu_n1 hof]; rfl)) (hP.sub [3, 4, 0, 1, 2] rfl) (hD.sub [3, 4, 0, 1, 2] (by decide) rfl) rfl (Nat.le_of_ble_eq_true rfl) (Nat.le_of_ble_eq_true rfl) d_M_tuple_25
  · obtain ⟨j, hjj, hxj, hij, hkj⟩ := of_t hcs c_6
    have hl : lv_has ls 3 [(0, .ref h), (1, .int (nI j)), (2, .int y)] := by rw [← hxj]; exact hl
    have hmj := hmn j hjj hkj
    refine lv_aload_n hx hb d_M_tuple_9 rfl (lv_at hl 0 rfl) ?_
    refine r_get C0 hK hP 3 rfl rfl i_M 11 (by decide) wt_674 (fun _ h => h) rfl d_M_tuple_10 ?_
    refine lv_iload_n hx hb d_M_tuple_13 rfl (lv_at hl 1 rfl) ?_
    refine r_ald C0 hK hP 0 rfl (by omega) (by decide) d_M_tuple_14 ?_
    refine t_eq (y := (nI (wi j))) rfl ?_
    refine lv_iload_n hx hb d_M_tuple_15 rfl (lv_at hl 2 rfl) ?_
    refine lv_iconst (v := (bI true)) hx hb d_M_tuple_16 (by decide) ?_
    refine call_i (rm := { frames := 0, cells := 0, slots := 0, locals := 0 }) hS hP hD hA (spl_mk (wc := []) (wr := [(ad 11, .inl (cI, 10, .inl (nA wi))), (ad 17, .inl (cI, 10, .inl (nA mn))), (ad 18, .inl (cI, 200, .inl (nA tu))), (h, .inr (10, oM ad nm mk rd cs)), (ad 10, .inl (cI, 10, .inl (nA ki)))]) [] [0, 1, 2, 3, 4] rfl rfl (by decide)) (run_s (n := 3) (As := [.int (nI (wi j)), .int y, .int (bI true)]) (rest := []) C0 (hK.sub [] rfl) (c_M_isWord l D cI H.size (wi j) y true (hwi j)) wt_781 wt_4 wt_779 wt_780 (by decide +kernel) ⟨Nat.le_of_ble_eq_true rfl, Nat.le_of_ble_eq_true rfl⟩ rfl hl.1 rfl (Nat.le_of_ble_eq_true rfl) d_M_tuple_17 ⟨Nat.le_of_ble_eq_true rfl, Nat.le_of_ble_eq_true rfl⟩) (fun r_17 _u17 H locs hw_17 hP hD hS => ?_)
    have hP : va_P D cls [(ad 11, .inl (cI, 10, .inl (nA wi))), (ad 17, .inl (cI, 10, .inl (nA mn))), (ad 18, .inl (cI, 200, .inl (nA tu))), (h, .inr (10, oM ad nm mk rd cs)), (ad 10, .inl (cI, 10, .inl (nA ki)))] H := hP
    have hD : va_D A [(ad 11, .inl (cI, 10, .inl (nA wi))), (ad 17, .inl (cI, 10, .inl (nA mn))), (ad 18, .inl (cI, 200, .inl (nA tu))), (h, .inr (10, oM ad nm mk rd cs)), (ad 10, .inl (cI, 10, .inl (nA ki)))] := hD
    subst hw_17
    refine y_ne (tgt := 26) hx hb d_M_tuple_20 (by decide) (fun c_20 => ?_) (fun c_20 => ?_)
    · obtain ⟨w, hw1, hw18, hyw, hiw, hal⟩ := word_t (hwi j) c_20
      have hl : lv_has ls 3 [(0, .ref h), (1, .int (nI j)), (2, .int (nI w))] := by rw [← hyw]; exact hl
      refine lv_aload_n hx hb d_M_tuple_26 rfl (lv_at hl 0 rfl) ?_
      refine r_get C0 hK hP 3 rfl rfl i_M 17 (by decide) wt_680 (fun _ h => h) rfl d_M_tuple_27 ?_
      refine lv_iload_n hx hb d_M_tuple_30 rfl (lv_at hl 1 rfl) ?_
      refine r_ald C0 hK hP 1 rfl (by omega) (by decide) d_M_tuple_31 ?_
      refine t_eq (y := (nI (mn j))) rfl ?_
      refine lv_bipush (v := (nI 20)) hx hb d_M_tuple_32 (by decide) ?_
      refine b_ne (tgt := 40) hx hb (by omega) (by decide) d_M_tuple_34 (by decide) (fun c_34 => ?_) (fun c_34 => ?_)
      · refine lv_aload_n hx hb d_M_tuple_40 rfl (lv_at hl 0 rfl) ?_
        refine r_get C0 hK hP 3 rfl rfl i_M 18 (by decide) wt_681 (fun _ h => h) rfl d_M_tuple_41 ?_
        refine lv_bipush (v := (nI 20)) hx hb d_M_tuple_44 (by decide) ?_
        refine lv_iload_n hx hb d_M_tuple_46 rfl (lv_at hl 1 rfl) ?_
        refine lv_imul hx hb d_M_tuple_47 ?_
        refine t_eq (y := (nI (20 * j))) (pk_mul _ _) ?_
        refine lv_aload_n hx hb d_M_tuple_48 rfl (lv_at hl 0 rfl) ?_
        refine r_get C0 hK hP 3 rfl rfl i_M 17 (by decide) wt_680 (fun _ h => h) rfl d_M_tuple_49 ?_
        refine lv_iload_n hx hb d_M_tuple_52 rfl (lv_at hl 1 rfl) ?_
        refine r_ald C0 hK hP 1 rfl (by omega) (by decide) d_M_tuple_53 ?_
        refine t_eq (y := (nI (mn j))) rfl ?_
        refine lv_iadd hx hb d_M_tuple_54 ?_
        refine t_eq (y := (nI ((20 * j) + (mn j)))) (nI_add _ _) ?_
        refine lv_iload_n hx hb d_M_tuple_55 rfl (lv_at hl 2 rfl) ?_
        refine r_astN C0 hK hP hD hS 2 rfl (by omega) (by decide) d_M_tuple_56 (fun H locs hP hD hS => ?_)
        have hP : va_P D cls [(ad 11, .inl (cI, 10, .inl (nA wi))), (ad 17, .inl (cI, 10, .inl (nA mn))), (ad 18, .inl (cI, 200, .inl (nA (va_up tu ((20 * j) + (mn j)) w)))), (h, .inr (10, oM ad nm mk rd cs)), (ad 10, .inl (cI, 10, .inl (nA ki)))] H := hP
        have hD : va_D A [(ad 11, .inl (cI, 10, .inl (nA wi))), (ad 17, .inl (cI, 10, .inl (nA mn))), (ad 18, .inl (cI, 200, .inl (nA (va_up tu ((20 * j) + (mn j)) w)))), (h, .inr (10, oM ad nm mk rd cs)), (ad 10, .inl (cI, 10, .inl (nA ki)))] := hD
        refine lv_aload_n hx hb d_M_tuple_57 rfl (lv_at hl 0 rfl) ?_
        refine r_get C0 hK hP 3 rfl rfl i_M 17 (by decide) wt_680 (fun _ h => h) rfl d_M_tuple_58 ?_
        refine lv_iload_n hx hb d_M_tuple_61 rfl (lv_at hl 1 rfl) ?_
        refine lv_dup2_11 hx hb d_M_tuple_62 rfl rfl ?_
        refine r_ald C0 hK hP 1 rfl (by omega) (by decide) d_M_tuple_63 ?_
        refine t_eq (y := (nI (mn j))) rfl ?_
        refine lv_iconst (v := (nI 1)) hx hb d_M_tuple_64 (by decide) ?_
        refine lv_iadd hx hb d_M_tuple_65 ?_
        refine t_eq (y := (nI ((mn j) + 1))) (nI_add _ _) ?_
        refine r_astN C0 hK hP hD hS 1 rfl (by omega) (by decide) d_M_tuple_66 (fun H locs hP hD hS => ?_)
        have hP : va_P D cls [(ad 11, .inl (cI, 10, .inl (nA wi))), (ad 17, .inl (cI, 10, .inl (nA (va_up mn j ((mn j) + 1))))), (ad 18, .inl (cI, 200, .inl (nA (va_up tu ((20 * j) + (mn j)) w)))), (h, .inr (10, oM ad nm mk rd cs)), (ad 10, .inl (cI, 10, .inl (nA ki)))] H := hP
        have hD : va_D A [(ad 11, .inl (cI, 10, .inl (nA wi))), (ad 17, .inl (cI, 10, .inl (nA (va_up mn j ((mn j) + 1))))), (ad 18, .inl (cI, 200, .inl (nA (va_up tu ((20 * j) + (mn j)) w)))), (h, .inr (10, oM ad nm mk rd cs)), (ad 10, .inl (cI, 10, .inl (nA ki)))] := hD
        have hP : va_P D cls [(h, .inr (10, oM ad nm mk rd cs)), (ad 10, .inl (cI, 10, .inl (nA ki))), (ad 11, .inl (cI, 10, .inl (nA wi))), (ad 17, .inl (cI, 10, .inl (nA (va_up mn j ((mn j) + 1))))), (ad 18, .inl (cI, 200, .inl (nA (va_up tu ((20 * j) + (mn j)) w))))] H := hP.sub [3, 4, 0, 1, 2] rfl
        have hD : va_D A [(h, .inr (10, oM ad nm mk rd cs)), (ad 10, .inl (cI, 10, .inl (nA ki))), (ad 11, .inl (cI, 10, .inl (nA wi))), (ad 17, .inl (cI, 10, .inl (nA (va_up mn j ((mn j) + 1))))), (ad 18, .inl (cI, 200, .inl (nA (va_up tu ((20 * j) + (mn j)) w))))] := hD.sub [3, 4, 0, 1, 2] (by decide) rfl
        refine lv_aload_n hx hb d_M_tuple_67 rfl (lv_at hl 0 rfl) ?_
        refine r_get C0 hK hP 0 rfl rfl i_M 17 (by decide) wt_680 (fun _ h => h) rfl d_M_tuple_68 ?_
        refine lv_iload_n hx hb d_M_tuple_71 rfl (lv_at hl 1 rfl) ?_
        refine r_ald C0 hK hP 3 rfl (by omega) (by decide) d_M_tuple_72 ?_
        refine t_eq (y := (nI ((va_up mn j ((mn j) + 1)) j))) rfl ?_
        exact ret_i C0 hr hlk hAe hS (va_up tu ((20 * j) + (mn j)) w, va_up mn j ((mn j) + 1)) (by rw [oTu_s hij hkj c_20 hiw]; show _ = (if _ then _ else _); rw [if_neg c_34, va_up_self]) hP hD rfl (Nat.le_of_ble_eq_true rfl) (Nat.le_of_ble_eq_true rfl) d_M_tuple_73
      · refine lv_bipush (v := (-3)) hx hb d_M_tuple_37 (by decide) ?_
        exact ret_i C0 hr hlk hAe hS (tu, mn) (by rw [oTu_s hij hkj c_20 hiw]; show _ = (if _ then _ else _); rw [if_pos c_34]) (hP.sub [3, 4, 0, 1, 2] rfl) (hD.sub [3, 4, 0, 1, 2] (by decide) rfl) rfl (Nat.le_of_ble_eq_true rfl) (Nat.le_of_ble_eq_true rfl) d_M_tuple_39
    · refine lv_bipush (v := (-2)) hx hb d_M_tuple_23 (by decide) ?_
      exact ret_i C0 hr hlk hAe hS (tu, mn) (by first | (rw [oTu_n2 hij c_20]; rfl) | (rw [oTu_n1 hof]; rfl)) (hP.sub [3, 4, 0, 1, 2] rfl) (hD.sub [3, 4, 0, 1, 2] (by decide) rfl) rfl (Nat.le_of_ble_eq_true rfl) (Nat.le_of_ble_eq_true rfl) d_M_tuple_25
