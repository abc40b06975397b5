set_option maxHeartbeats 4000000 in
set_option maxRecDepth 100000 in
theorem c_M_domain (l : Launch) (D : va_G) (cI : ClassId) (sz : Nat) (h : Nat) (ad : Nat → Nat) (nm : Nat) (mk : Nat) (rd : Nat) (cs : Nat) (dm : Nat → Nat) (x : Int32) (hnm : nm ≤ 6) : MetI l y_M_domain b_M_domain 2 (some .int) { frames := 1, cells := 0, slots := 0, locals := 22 } D cI [] sz [(h, .inr (10, oM ad nm mk rd cs)), (ad 1, .inl (cI, 6, .inl (nA dm)))] [.ref h, .int x] (fun (r : Int32) (u : Unit) => r = (ixN x nm).elim (-2) (fun j => nI (dm j))) (fun u : Unit => [(h, .inr (10, oM ad nm mk rd cs)), (ad 1, .inl (cI, 6, .inl (nA dm)))]) := by
  refine enter (by decide) (Nat.le_of_ble_eq_true rfl) ?_
  intro p e s m below meth c A ls C0 hr hlk hnm hK hsz hA hAe hP hD hS hl
  have hx := C0.1
  have hb := C0.2.1
  have hl : lv_has ls 2 [(0, .ref h), (1, .int x)] := hl
  refine lv_iload_n hx hb d_M_domain_0 rfl (lv_at hl 1 rfl) ?_
  refine lv_iconst (v := (nI 0)) hx hb d_M_domain_1 (by decide) ?_
  refine lv_aload_n hx hb d_M_domain_2 rfl (lv_at hl 0 rfl) ?_
  refine r_get C0 hK hP 0 rfl rfl i_M 0 (by decide) wt_663 (fun _ h => h) rfl d_M_domain_3 ?_
  refine lv_iconst (v := (nI 1)) hx hb d_M_domain_6 (by decide) ?_
  refine lv_isub hx hb d_M_domain_7 ?_
  refine call_i (rm := { frames := 0, cells := 0, slots := 0, locals := 0 }) hS hP hD hA (spl_mk (wc := []) (wr := [(h, .inr (10, oM ad nm mk rd cs)), (ad 1, .inl (cI, 6, .inl (nA dm)))]) [] [0, 1] rfl rfl (by decide)) (run_s (n := 3) (As := [.int x, .int (nI 0), .int (nI nm - nI 1)]) (rest := []) C0 (hK.sub [] rfl) (c_M_isIn l D cI s.heap.size x (nI 0) (nI nm - nI 1)) wt_758 wt_4 wt_756 wt_757 (by decide +kernel) ⟨Nat.le_of_ble_eq_true rfl, Nat.le_of_ble_eq_true rfl⟩ rfl hl.1 rfl (Nat.le_of_ble_eq_true rfl) d_M_domain_8 ⟨Nat.le_of_ble_eq_true rfl, Nat.le_of_ble_eq_true rfl⟩) (fun r_8 _u8 H locs hw_8 hP hD hS => ?_)
  have hP : va_P D cls [(h, .inr (10, oM ad nm mk rd cs)), (ad 1, .inl (cI, 6, .inl (nA dm)))] H := hP
  have hD : va_D A [(h, .inr (10, oM ad nm mk rd cs)), (ad 1, .inl (cI, 6, .inl (nA dm)))] := hD
  subst hw_8
  refine y_eq (tgt := 23) hx hb d_M_domain_11 (by decide) (fun c_11 => ?_) (fun c_11 => ?_)
  · have hij := ix_f (by omega) c_11
    refine lv_bipush (v := (-2)) hx hb d_M_domain_23 (by decide) ?_
    exact ret_i C0 hr hlk hAe hS () (by rw [hij]; rfl) hP hD rfl (Nat.le_of_ble_eq_true rfl) (Nat.le_of_ble_eq_true rfl) d_M_domain_25
  · obtain ⟨j, hjj, hxj, hij⟩ := ix_t (by omega) c_11
    have hl : lv_has ls 2 [(0, .ref h), (1, .int (nI j))] := by rw [← hxj]; exact hl
    refine lv_aload_n hx hb d_M_domain_14 rfl (lv_at hl 0 rfl) ?_
    refine r_get C0 hK hP 0 rfl rfl i_M 1 (by decide) wt_664 (fun _ h => h) rfl d_M_domain_15 ?_
    refine lv_iload_n hx hb d_M_domain_18 rfl (lv_at hl 1 rfl) ?_
    refine r_ald C0 hK hP 1 rfl (by omega) (by decide) d_M_domain_19 ?_
    refine t_eq (y := (nI (dm j))) rfl ?_
    refine lv_goto (tgt := 25) hx hb d_M_domain_20 (by decide) ?_
    exact ret_i C0 hr hlk hAe hS () (by rw [hij]; rfl) hP hD rfl (Nat.le_of_ble_eq_true rfl) (Nat.le_of_ble_eq_true rfl) d_M_domain_25
set_option maxHeartbeats 4000000 in
set_option maxRecDepth 100000 in
theorem c_M_why (l : Launch) (D : va_G) (cI : ClassId) (sz : Nat) (h : Nat) (ad : Nat → Nat) (nm : Nat) (mk : Nat) (rd : Nat) (cs : Nat) (rs : Nat → Int32) (rn : Nat → Int32) (x : Int32) (y : Int32) (z : Int32) (hnm : nm ≤ 6) : MetI l y_M_why b_M_why 4 (some .int) { frames := 1, cells := 0, slots := 0, locals := 22 } D cI [] sz [(h, .inr (10, oM ad nm mk rd cs)), (ad 2, .inl (cI, 36, .inl rs)), (ad 3, .inl (cI, 36, .inl rn))] [.ref h, .int x, .int y, .int z] (fun (r : Int32) (u : Unit) => r = (ixN x nm).elim (-2) (fun j => (ixN y 6).elim (-2) (fun v => (ixN z 2).elim (-2) (fun q => if q = 0 then rs (6 * j + v) else rn (6 * j + v))))) (fun u : Unit => [(h, .inr (10, oM ad nm mk rd cs)), (ad 2, .inl (cI, 36, .inl rs)), (ad 3, .inl (cI, 36, .inl rn))]) := by
  refine enter (by decide) (Nat.le_of_ble_eq_true rfl) ?_
  intro p e s m below meth c A ls C0 hr hlk hnm hK hsz hA hAe hP hD hS hl
  have hx := C0.1
  have hb := C0.2.1
  have hl : lv_has ls 4 [(0, .ref h), (1, .int x), (2, .int y), (3, .int z)] := hl
  refine lv_iload_n hx hb d_M_why_0 rfl (lv_at hl 1 rfl) ?_
  refine lv_iconst (v := (nI 0)) hx hb d_M_why_1 (by decide) ?_
  refine lv_aload_n hx hb d_M_why_2 rfl (lv_at hl 0 rfl) ?_
  refine r_get C0 hK hP 0 rfl rfl i_M 0 (by decide) wt_663 (fun _ h => h) rfl d_M_why_3 ?_
  refine lv_iconst (v := (nI 1)) hx hb d_M_why_6 (by decide) ?_
  refine lv_isub hx hb d_M_why_7 ?_
  refine call_i (rm := { frames := 0, cells := 0, slots := 0, locals := 0 }) hS hP hD hA (spl_mk (wc := []) (wr := [(h, .inr (10, oM ad nm mk rd cs)), (ad 2, .inl (cI, 36, .inl rs)), (ad 3, .inl (cI, 36, .inl rn))]) [] [0, 1, 2] rfl rfl (by decide)) (run_s (n := 3) (As := [.int x, .int (nI 0), .int (nI nm - nI 1)]) (rest := []) C0 (hK.sub [] rfl) (c_M_isIn l D cI s.heap.size x (nI 0) (nI nm - nI 1)) wt_758 wt_4 wt_756 wt_757 (by decide +kernel) ⟨Nat.le_of_ble_eq_true rfl, Nat.le_of_ble_eq_true rfl⟩ rfl hl.1 rfl (Nat.le_of_ble_eq_true rfl) d_M_why_8 ⟨Nat.le_of_ble_eq_true rfl, Nat.le_of_ble_eq_true rfl⟩) (fun r_8 _u8 H locs hw_8 hP hD hS => ?_)
  have hP : va_P D cls [(h, .inr (10, oM ad nm mk rd cs)), (ad 2, .inl (cI, 36, .inl rs)), (ad 3, .inl (cI, 36, .inl rn))] H := hP
  have hD : va_D A [(h, .inr (10, oM ad nm mk rd cs)), (ad 2, .inl (cI, 36, .inl rs)), (ad 3, .inl (cI, 36, .inl rn))] := hD
  subst hw_8
  refine y_eq (tgt := 32) hx hb d_M_why_11 (by decide) (fun c_11 => ?_) (fun c_11 => ?_)
  · have hij := ix_f (by omega) c_11
    refine lv_bipush (v := (-2)) hx hb d_M_why_32 (by decide) ?_
    exact ret_i C0 hr hlk hAe hS () (by first | (rw [hij, hiv, hiq]; rfl) | (rw [hij, hiv]; rfl) | (rw [hij]; rfl)) hP hD rfl (Nat.le_of_ble_eq_true rfl) (Nat.le_of_ble_eq_true rfl) d_M_why_34
  · obtain ⟨j, hjj, hxj, hij⟩ := ix_t (by omega) c_11
    have hl : lv_has ls 4 [(0, .ref h), (1, .int (nI j)), (2, .int y), (3, .int z)] := by rw [← hxj]; exact hl
    refine lv_iload_n hx hb d_M_why_14 rfl (lv_at hl 2 rfl) ?_
    refine lv_iconst (v := (nI 0)) hx hb d_M_why_15 (by decide) ?_
    refine lv_iconst (v := (nI 5)) hx hb d_M_why_16 (by decide) ?_
    refine call_i (rm := { frames := 0, cells := 0, slots := 0, locals := 0 }) hS hP hD hA (spl_mk (wc := []) (wr := [(h, .inr (10, oM ad nm mk rd cs)), (ad 2, .inl (cI, 36, .inl rs)), (ad 3, .inl (cI, 36, .inl rn))]) [] [0, 1, 2] rfl rfl (by decide)) (run_s (n := 3) (As := [.int y, .int (nI 0), .int (nI 5)]) (rest := []) C0 (hK.sub [] rfl) (c_M_isIn l D cI H.size y (nI 0) (nI 5)) wt_758 wt_4 wt_756 wt_757 (by decide +kernel) ⟨Nat.le_of_ble_eq_true rfl, Nat.le_of_ble_eq_true rfl⟩ rfl hl.1 rfl (Nat.le_of_ble_eq_true rfl) d_M_why_17 ⟨Nat.le_of_ble_eq_true rfl, Nat.le_of_ble_eq_true rfl⟩) (fun r_17 _u17 H locs hw_17 hP hD hS => ?_)
    have hP : va_P D cls [(h, .inr (10, oM ad nm mk rd cs)), (ad 2, .inl (cI, 36, .inl rs)), (ad 3, .inl (cI, 36, .inl rn))] H := hP
    have hD : va_D A [(h, .inr (10, oM ad nm mk rd cs)), (ad 2, .inl (cI, 36, .inl rs)), (ad 3, .inl (cI, 36, .inl rn))] := hD
    subst hw_17
    refine y_eq (tgt := 32) hx hb d_M_why_20 (by decide) (fun c_20 => ?_) (fun c_20 => ?_)
    · have hiv := ik_f (by decide) c_20
      refine lv_bipush (v := (-2)) hx hb d_M_why_32 (by decide) ?_
      exact ret_i C0 hr hlk hAe hS () (by first | (rw [hij, hiv, hiq]; rfl) | (rw [hij, hiv]; rfl) | (rw [hij]; rfl)) hP hD rfl (Nat.le_of_ble_eq_true rfl) (Nat.le_of_ble_eq_true rfl) d_M_why_34
    · obtain ⟨v, hjv, hxv, hiv⟩ := ik_t (by decide) c_20
      have hl : lv_has ls 4 [(0, .ref h), (1, .int (nI j)), (2, .int (nI v)), (3, .int z)] := by rw [← hxv]; exact hl
      refine lv_iload_n hx hb d_M_why_23 rfl (lv_at hl 3 rfl) ?_
      refine lv_iconst (v := (nI 0)) hx hb d_M_why_24 (by decide) ?_
      refine lv_iconst (v := (nI 1)) hx hb d_M_why_25 (by decide) ?_
      refine call_i (rm := { frames := 0, cells := 0, slots := 0, locals := 0 }) hS hP hD hA (spl_mk (wc := []) (wr := [(h, .inr (10, oM ad nm mk rd cs)), (ad 2, .inl (cI, 36, .inl rs)), (ad 3, .inl (cI, 36, .inl rn))]) [] [0, 1, 2] rfl rfl (by decide)) (run_s (n := 3) (As := [.int z, .int (nI 0), .int (nI 1)]) (rest := []) C0 (hK.sub [] rfl) (c_M_isIn l D cI H.size z (nI 0) (nI 1)) wt_758 wt_4 wt_756 wt_757 (by decide +kernel) ⟨Nat.le_of_ble_eq_true rfl, Nat.le_of_ble_eq_true rfl⟩ rfl hl.1 rfl (Nat.le_of_ble_eq_true rfl) d_M_why_26 ⟨Nat.le_of_ble_eq_true rfl, Nat.le_of_ble_eq_true rfl⟩) (fun r_26 _u26 H locs hw_26 hP hD hS => ?_)
      have hP : va_P D cls [(h, .inr (10, oM ad nm mk rd cs)), (ad 2, .inl (cI, 36, .inl rs)), (ad 3, .inl (cI, 36, .inl rn))] H := hP
      have hD : va_D A [(h, .inr (10, oM ad nm mk rd cs)), (ad 2, .inl (cI, 36, .inl rs)), (ad 3, .inl (cI, 36, .inl rn))] := hD
      subst hw_26
      refine y_ne (tgt := 35) hx hb d_M_why_29 (by decide) (fun c_29 => ?_) (fun c_29 => ?_)
      · obtain ⟨q, hjq, hxq, hiq⟩ := ik_t (by decide) c_29
        have hl : lv_has ls 4 [(0, .ref h), (1, .int (nI j)), (2, .int (nI v)), (3, .int (nI q))] := by rw [← hxq]; exact hl
        refine lv_iload_n hx hb d_M_why_35 rfl (lv_at hl 3 rfl) ?_
        refine z_ne (tgt := 53) hx hb (by omega) d_M_why_36 (by decide) (fun c_36 => ?_) (fun c_36 => ?_)
        · refine lv_aload_n hx hb d_M_why_53 rfl (lv_at hl 0 rfl) ?_
          refine r_get C0 hK hP 0 rfl rfl i_M 3 (by decide) wt_666 (fun _ h => h) rfl d_M_why_54 ?_
          refine lv_bipush (v := (nI 6)) hx hb d_M_why_57 (by decide) ?_
          refine lv_iload_n hx hb d_M_why_59 rfl (lv_at hl 1 rfl) ?_
          refine lv_imul hx hb d_M_why_60 ?_
          refine t_eq (y := (nI (6 * j))) (pk_mul _ _) ?_
          refine lv_iload_n hx hb d_M_why_61 rfl (lv_at hl 2 rfl) ?_
          refine lv_iadd hx hb d_M_why_62 ?_
          refine t_eq (y := (nI ((6 * j) + v))) (nI_add _ _) ?_
          refine r_ald C0 hK hP 2 rfl (by omega) (by decide) d_M_why_63 ?_
          exact ret_i C0 hr hlk hAe hS () (by rw [hij, hiv, hiq]; show _ = (if _ then _ else _); first | rw [if_pos c_36] | rw [if_neg c_36]) hP hD rfl (Nat.le_of_ble_eq_true rfl) (Nat.le_of_ble_eq_true rfl) d_M_why_64
        · refine lv_aload_n hx hb d_M_why_39 rfl (lv_at hl 0 rfl) ?_
          refine r_get C0 hK hP 0 rfl rfl i_M 2 (by decide) wt_665 (fun _ h => h) rfl d_M_why_40 ?_
          refine lv_bipush (v := (nI 6)) hx hb d_M_why_43 (by decide) ?_
          refine lv_iload_n hx hb d_M_why_45 rfl (lv_at hl 1 rfl) ?_
          refine lv_imul hx hb d_M_why_46 ?_
          refine t_eq (y := (nI (6 * j))) (pk_mul _ _) ?_
          refine lv_iload_n hx hb d_M_why_47 rfl (lv_at hl 2 rfl) ?_
          refine lv_iadd hx hb d_M_why_48 ?_
          refine t_eq (y := (nI ((6 * j) + v))) (nI_add _ _) ?_
          refine r_ald C0 hK hP 1 rfl (by omega) (by decide) d_M_why_49 ?_
          refine lv_goto (tgt := 64) hx hb d_M_why_50 (by decide) ?_
          exact ret_i C0 hr hlk hAe hS () (by rw [hij, hiv, hiq]; show _ = (if _ then _ else _); first | rw [if_pos c_36] | rw [if_neg c_36]) hP hD rfl (Nat.le_of_ble_eq_true rfl) (Nat.le_of_ble_eq_true rfl) d_M_why_64
      · have hiq := ik_f (by decide) c_29
        refine lv_bipush (v := (-2)) hx hb d_M_why_32 (by decide) ?_
        exact ret_i C0 hr hlk hAe hS () (by first | (rw [hij, hiv, hiq]; rfl) | (rw [hij, hiv]; rfl) | (rw [hij]; rfl)) hP hD rfl (Nat.le_of_ble_eq_true rfl) (Nat.le_of_ble_eq_true rfl) d_M_why_34
set_option maxHeartbeats 4000000 in
set_option maxRecDepth 100000 in
theorem c_M_isOf (l : Launch) (D : va_G) (cI : ClassId) (sz : Nat) (h : Nat) (ad : Nat → Nat) (nm : Nat) (mk : Nat) (rd : Nat) (cs : Nat) (ki : Nat → Nat) (x : Int32) (kd : Nat) (hcs : cs ≤ 10) (hki : ∀ j, ki j ≤ 6) (hkd : kd ≤ 6) : MetI l y_M_isOf b_M_isOf 3 (some .boolean) { frames := 1, cells := 0, slots := 0, locals := 22 } D cI [] sz [(h, .inr (10, oM ad nm mk rd cs)), (ad 10, .inl (cI, 10, .inl (nA ki)))] [.ref h, .int x, .int (nI kd)] (fun (r : Int32) (u : Unit) => r = (bI ((ixN x cs).elim false (fun j => decide (ki j = kd))))) (fun u : Unit => [(h, .inr (10, oM ad nm mk rd cs)), (ad 10, .inl (cI, 10, .inl (nA ki)))]) := by
  refine enter (by decide) (Nat.le_of_ble_eq_true rfl) ?_
  intro p e s m below meth c A ls C0 hr hlk hnm hK hsz hA hAe hP hD hS hl
  have hx := C0.1
  have hb := C0.2.1
  have hl : lv_has ls 3 [(0, .ref h), (1, .int x), (2, .int (nI kd))] := hl
  refine lv_iload_n hx hb d_M_isOf_0 rfl (lv_at hl 1 rfl) ?_
  refine lv_iconst (v := (nI 0)) hx hb d_M_isOf_1 (by decide) ?_
  refine lv_aload_n hx hb d_M_isOf_2 rfl (lv_at hl 0 rfl) ?_
  refine r_get C0 hK hP 0 rfl rfl i_M 9 (by decide) wt_672 (fun _ h => h) rfl d_M_isOf_3 ?_
  refine lv_iconst (v := (nI 1)) hx hb d_M_isOf_6 (by decide) ?_
  refine lv_isub hx hb d_M_isOf_7 ?_
  refine call_i (rm := { frames := 0, cells := 0, slots := 0, locals := 0 }) hS hP hD hA (spl_mk (wc := []) (wr := [(h, .inr (10, oM ad nm mk rd cs)), (ad 10, .inl (cI, 10, .inl (nA ki)))]) [] [0, 1] rfl rfl (by decide)) (run_s (n := 3) (As := [.int x, .int (nI 0), .int (nI cs - nI 1)]) (rest := []) C0 (hK.sub [] rfl) (c_M_isIn l D cI s.heap.size x (nI 0) (nI cs - nI 1)) wt_758 wt_4 wt_756 wt_757 (by decide +kernel) ⟨Nat.le_of_ble_eq_true rfl, Nat.le_of_ble_eq_true rfl⟩ rfl hl.1 rfl (Nat.le_of_ble_eq_true rfl) d_M_isOf_8 ⟨Nat.le_of_ble_eq_true rfl, Nat.le_of_ble_eq_true rfl⟩) (fun r_8 _u8 H locs hw_8 hP hD hS => ?_)
  have hP : va_P D cls [(h, .inr (10, oM ad nm mk rd cs)), (ad 10, .inl (cI, 10, .inl (nA ki)))] H := hP
  have hD : va_D A [(h, .inr (10, oM ad nm mk rd cs)), (ad 10, .inl (cI, 10, .inl (nA ki)))] := hD
  subst hw_8
  refine y_eq (tgt := 28) hx hb d_M_isOf_11 (by decide) (fun c_11 => ?_) (fun c_11 => ?_)
  · have hij := ix_f (by omega) c_11
    refine lv_iconst (v := (nI 0)) hx hb d_M_isOf_28 (by decide) ?_
    exact ret_i C0 hr hlk hAe hS () (by rw [hij]; first | exact bI_of_t (decide_eq_true c_21) | exact bI_of_f (decide_eq_false c_21) | rfl) hP hD rfl (Nat.le_of_ble_eq_true rfl) (Nat.le_of_ble_eq_true rfl) d_M_isOf_29
  · obtain ⟨j, hjj, hxj, hij⟩ := ix_t (by omega) c_11
    have hl : lv_has ls 3 [(0, .ref h), (1, .int (nI j)), (2, .int (nI kd))] := by rw [← hxj]; exact hl
    refine lv_aload_n hx hb d_M_isOf_14 rfl (lv_at hl 0 rfl) ?_
    refine r_get C0 hK hP 0 rfl rfl i_M 10 (by decide) wt_673 (fun _ h => h) rfl d_M_isOf_15 ?_
    refine lv_iload_n hx hb d_M_isOf_18 rfl (lv_at hl 1 rfl) ?_
    refine r_ald C0 hK hP 1 rfl (by omega) (by decide) d_M_isOf_19 ?_
    refine t_eq (y := (nI (ki j))) rfl ?_
    refine lv_iload_n hx hb d_M_isOf_20 rfl (lv_at hl 2 rfl) ?_
    refine b_ne (tgt := 28) hx hb (by have := hki j; omega) (by omega) d_M_isOf_21 (by decide) (fun c_21 => ?_) (fun c_21 => ?_)
    · refine lv_iconst (v := (nI 0)) hx hb d_M_isOf_28 (by decide) ?_
      exact ret_i C0 hr hlk hAe hS () (by rw [hij]; first | exact bI_of_t (decide_eq_true c_21) | exact bI_of_f (decide_eq_false c_21) | rfl) hP hD rfl (Nat.le_of_ble_eq_true rfl) (Nat.le_of_ble_eq_true rfl) d_M_isOf_29
    · refine lv_iconst (v := (nI 1)) hx hb d_M_isOf_24 (by decide) ?_
      refine lv_goto (tgt := 29) hx hb d_M_isOf_25 (by decide) ?_
      exact ret_i C0 hr hlk hAe hS () (by rw [hij]; first | exact bI_of_t (decide_eq_true c_21) | exact bI_of_f (decide_eq_false c_21) | rfl) hP hD rfl (Nat.le_of_ble_eq_true rfl) (Nat.le_of_ble_eq_true rfl) d_M_isOf_29
set_option maxHeartbeats 4000000 in
set_option maxRecDepth 100000 in
theorem c_M_isWord (l : Launch) (D : va_G) (cI : ClassId) (sz : Nat) (q : Nat) (x : Int32) (sf : Bool) (hq : q ≤ 6) : MetI l y_M_isWord b_M_isWord 6 (some .boolean) { frames := 0, cells := 0, slots := 0, locals := 0 } D cI [] sz [] [.int (nI q), .int x, .int (bI sf)] (fun (r : Int32) (u : Unit) => r = (bI (wordB x q sf))) (fun u : Unit => []) := by
  refine enter (by decide) (Nat.le_of_ble_eq_true rfl) ?_
  intro p e s m below meth c A ls C0 hr hlk hnm hK hsz hA hAe hP hD hS hl
  have hx := C0.1
  have hb := C0.2.1
  have hl : lv_has ls 6 [(0, .int (nI q)), (1, .int x), (2, .int (bI sf))] := hl
  refine lv_iload_n hx hb d_M_isWord_0 rfl (lv_at hl 1 rfl) ?_
  refine lv_if_lt (tgt := 12) hx hb d_M_isWord_1 (by decide) (fun c_1 => ?_) (fun c_1 => ?_)
  · have hxn := ix_neg (m := 2 ^ (3 * q)) c_1
    refine lv_iconst (v := (nI 0)) hx hb d_M_isWord_12 (by decide) ?_
    exact ret_i C0 hr hlk hAe hS () (by rw [wordB_n hxn]; rfl) hP hD rfl (Nat.le_of_ble_eq_true rfl) (Nat.le_of_ble_eq_true rfl) d_M_isWord_13
  · obtain ⟨w, hw31, hxw⟩ := nI_of c_1
    have hl : lv_has ls 6 [(0, .int (nI q)), (1, .int (nI w)), (2, .int (bI sf))] := by rw [← hxw]; exact hl
    refine lv_iload_n hx hb d_M_isWord_4 rfl (lv_at hl 1 rfl) ?_
    refine lv_iconst (v := (nI 3)) hx hb d_M_isWord_5 (by decide) ?_
    refine lv_iload_n hx hb d_M_isWord_6 rfl (lv_at hl 0 rfl) ?_
    refine lv_imul hx hb d_M_isWord_7 ?_
    refine t_eq (y := (nI (3 * q))) (pk_mul _ _) ?_
    refine lv_ishr hx hb d_M_isWord_8 ?_
    refine t_eq (y := (nI (w / 2 ^ (3 * q)))) (m_shr (by omega) (by omega)) ?_
    refine z_eq (tgt := 14) hx hb (Nat.lt_of_le_of_lt (Nat.div_le_self _ _) hw31) d_M_isWord_9 (by decide) (fun c_9 => ?_) (fun c_9 => ?_)
    · have hxs := ix_sh0 (m := q) hq c_9
      rw [← hxw] at hxs
      refine lv_iconst (v := (nI 1)) hx hb d_M_isWord_14 (by decide) ?_
      refine lv_istore_n (lv' := [(3, .int (nI 1)), (0, .int (nI q)), (1, .int (nI w)), (2, .int (bI sf))]) hx hb d_M_isWord_15 rfl hl (by decide) rfl (fun ls hl => ?_)
      refine lv_iconst (v := (nI 0)) hx hb d_M_isWord_16 (by decide) ?_
      refine lv_istore (lv' := [(4, .int (nI 0)), (3, .int (nI 1)), (0, .int (nI q)), (1, .int (nI w)), (2, .int (bI sf))]) hx hb d_M_isWord_17 hl (by decide) rfl (fun ls hl => ?_)
      have hl : lv_has ls 6 [(4, .int (nI 0)), (3, .int (bI (allB (fun k => okD sf (dgt w k)) 0))), (0, .int (nI q)), (1, .int (nI w)), (2, .int (bI sf))] := hl
      have L19 : ∀ (fuel19 : Nat) (i : Nat), (i ≤ q) → (q < i + fuel19) → ∀ (H : Heap) (locs : List Loc) (ls : Array Slot), va_P D cls [] H → va_D A [] → va_S A s.heap H locs → lv_has ls 6 [(4, .int (nI i)), (3, .int (bI (allB (fun k => okD sf (dgt w k)) i))), (0, .int (nI q)), (1, .int (nI w)), (2, .int (bI sf))] → W p l e { frames := 0, cells := 0, slots := 0, locals := 0 } s m ([.int (nI q), .int x, .int (bI sf)] : List Value).toArray below meth c H locs 0 0 (MQ below (pstI D [] sz (fun (r : Int32) (u : Unit) => r = (bI (wordB x q sf))) (fun u : Unit => [])) ([.int (nI q), .int x, .int (bI sf)] : List Value).toArray s 0 0 A) (F0 m 19 ls []) := by
        intro fuel19
        induction fuel19 with
        | zero => intros; omega
        | succ fuel19 ih19 =>
          intro i hi hfu H locs ls hP hD hS hl
          refine lv_iload hx hb d_M_isWord_19 (lv_at hl 0 rfl) ?_
          refine lv_iload_n hx hb d_M_isWord_21 rfl (lv_at hl 2 rfl) ?_
          refine b_ge (tgt := 70) hx hb (by omega) (by omega) d_M_isWord_22 (by decide) (fun c_22 => ?_) (fun c_22 => ?_)
          · refine lv_iload_n hx hb d_M_isWord_70 rfl (lv_at hl 1 rfl) ?_
            exact ret_i C0 hr hlk hAe hS () (by rw [wordB_s hxs, show q = i by omega]) hP hD (bI_n _) (Nat.le_of_ble_eq_true rfl) (Nat.le_of_ble_eq_true rfl) d_M_isWord_71
          · refine lv_iload_n hx hb d_M_isWord_25 rfl (lv_at hl 3 rfl) ?_
            refine lv_iconst (v := (nI 3)) hx hb d_M_isWord_26 (by decide) ?_
            refine lv_iload hx hb d_M_isWord_27 (lv_at hl 0 rfl) ?_
            refine lv_imul hx hb d_M_isWord_29 ?_
            refine t_eq (y := (nI (3 * i))) (pk_mul _ _) ?_
            refine lv_ishr hx hb d_M_isWord_30 ?_
            refine t_eq (y := (nI (w / 2 ^ (3 * i)))) (m_shr (by omega) (by omega)) ?_
            refine lv_bipush (v := (nI 7)) hx hb d_M_isWord_31 (by decide) ?_
            refine lv_iand hx hb d_M_isWord_33 ?_
            refine t_eq (y := (nI (dgt w i))) (m_and7 _) ?_
            have hd_33 := dgt_lt w i
            refine lv_istore (lv' := [(5, .int (nI (dgt w i))), (4, .int (nI i)), (3, .int (bI (allB (fun k => okD sf (dgt w k)) i))), (0, .int (nI q)), (1, .int (nI w)), (2, .int (bI sf))]) hx hb d_M_isWord_34 hl (by decide) rfl (fun ls hl => ?_)
            refine lv_iload_n hx hb d_M_isWord_36 rfl (lv_at hl 2 rfl) ?_
            refine y_eq (tgt := 62) hx hb d_M_isWord_37 (by decide) (fun c_37 => ?_) (fun c_37 => ?_)
            · refine lv_iconst (v := (nI 0)) hx hb d_M_isWord_62 (by decide) ?_
              refine t_eq (y := bI (allB (fun k => okD sf (dgt w k)) (i + 1))) (by show _ = bI (_ && okD sf (dgt w i)); first | (rw [c_37]; exact bI_of_f rfl) | (rw [c_37, Bool.true_and]; refine bI_of_t ?_; unfold okD; simp [c_44]; done) | (rw [c_37, Bool.true_and]; refine bI_of_t ?_; unfold okD; simp [c_48, c_55]; done) | (rw [c_37, Bool.true_and]; refine bI_of_f ?_; unfold okD; simp [Nat.not_lt.mpr c_44, c_55]; done) | (rw [c_37, Bool.true_and]; refine bI_of_f ?_; unfold okD; simp [Nat.not_lt.mpr c_44, c_48]; done) | (rw [c_37, Bool.true_and]; refine bI_of_f ?_; unfold okD; simp [Nat.not_lt.mpr c_44, c_48, c_55]; done)) ?_
              refine lv_istore_n (lv' := [(3, .int (bI (allB (fun k => okD sf (dgt w k)) (i + 1)))), (5, .int (nI (dgt w i))), (4, .int (nI i)), (0, .int (nI q)), (1, .int (nI w)), (2, .int (bI sf))]) hx hb d_M_isWord_63 rfl hl (by decide) rfl (fun ls hl => ?_)
              refine lv_iinc (v := (nI (i + 1))) (lv' := [(4, .int (nI (i + 1))), (3, .int (bI (allB (fun k => okD sf (dgt w k)) (i + 1)))), (5, .int (nI (dgt w i))), (0, .int (nI q)), (1, .int (nI w)), (2, .int (bI sf))]) hx hb d_M_isWord_64 hl (k := 2) rfl (by exact nI_1 _) (by decide) rfl (fun ls hl => ?_)
              refine lv_goto (tgt := 19) hx hb d_M_isWord_67 (by decide) ?_
              exact ih19 (i + 1) (by omega) (by omega) _ _ _ hP hD hS (lv_sub hl [0, 1, 3, 4, 5] rfl)
            · refine lv_iload hx hb d_M_isWord_40 (lv_at hl 0 rfl) ?_
              refine lv_bipush (v := (nI 6)) hx hb d_M_isWord_42 (by decide) ?_
              refine b_lt (tgt := 58) hx hb (by omega) (by decide) d_M_isWord_44 (by decide) (fun c_44 => ?_) (fun c_44 => ?_)
              · refine lv_iconst (v := (nI 1)) hx hb d_M_isWord_58 (by decide) ?_
                refine lv_goto (tgt := 63) hx hb d_M_isWord_59 (by decide) ?_
                refine t_eq (y := bI (allB (fun k => okD sf (dgt w k)) (i + 1))) (by show _ = bI (_ && okD sf (dgt w i)); first | (rw [c_37]; exact bI_of_f rfl) | (rw [c_37, Bool.true_and]; refine bI_of_t ?_; unfold okD; simp [c_44]; done) | (rw [c_37, Bool.true_and]; refine bI_of_t ?_; unfold okD; simp [c_48, c_55]; done) | (rw [c_37, Bool.true_and]; refine bI_of_f ?_; unfold okD; simp [Nat.not_lt.mpr c_44, c_55]; done) | (rw [c_37, Bool.true_and]; refine bI_of_f ?_; unfold okD; simp [Nat.not_lt.mpr c_44, c_48]; done) | (rw [c_37, Bool.true_and]; refine bI_of_f ?_; unfold okD; simp [Nat.not_lt.mpr c_44, c_48, c_55]; done)) ?_
                refine lv_istore_n (lv' := [(3, .int (bI (allB (fun k => okD sf (dgt w k)) (i + 1)))), (5, .int (nI (dgt w i))), (4, .int (nI i)), (0, .int (nI q)), (1, .int (nI w)), (2, .int (bI sf))]) hx hb d_M_isWord_63 rfl hl (by decide) rfl (fun ls hl => ?_)
                refine lv_iinc (v := (nI (i + 1))) (lv' := [(4, .int (nI (i + 1))), (3, .int (bI (allB (fun k => okD sf (dgt w k)) (i + 1)))), (5, .int (nI (dgt w i))), (0, .int (nI q)), (1, .int (nI w)), (2, .int (bI sf))]) hx hb d_M_isWord_64 hl (k := 2) rfl (by exact nI_1 _) (by decide) rfl (fun ls hl => ?_)
                refine lv_goto (tgt := 19) hx hb d_M_isWord_67 (by decide) ?_
                exact ih19 (i + 1) (by omega) (by omega) _ _ _ hP hD hS (lv_sub hl [0, 1, 3, 4, 5] rfl)
              · refine lv_iload_n hx hb d_M_isWord_47 rfl (lv_at hl 5 rfl) ?_
                refine y_eq (tgt := 62) hx hb d_M_isWord_48 (by decide) (fun c_48 => ?_) (fun c_48 => ?_)
                · refine lv_iconst (v := (nI 0)) hx hb d_M_isWord_62 (by decide) ?_
                  refine t_eq (y := bI (allB (fun k => okD sf (dgt w k)) (i + 1))) (by show _ = bI (_ && okD sf (dgt w i)); first | (rw [c_37]; exact bI_of_f rfl) | (rw [c_37, Bool.true_and]; refine bI_of_t ?_; unfold okD; simp [c_44]; done) | (rw [c_37, Bool.true_and]; refine bI_of_t ?_; unfold okD; simp [c_48, c_55]; done) | (rw [c_37, Bool.true_and]; refine bI_of_f ?_; unfold okD; simp [Nat.not_lt.mpr c_44, c_55]; done) | (rw [c_37, Bool.true_and]; refine bI_of_f ?_; unfold okD; simp [Nat.not_lt.mpr c_44, c_48]; done) | (rw [c_37, Bool.true_and]; refine bI_of_f ?_; unfold okD; simp [Nat.not_lt.mpr c_44, c_48, c_55]; done)) ?_
                  refine lv_istore_n (lv' := [(3, .int (bI (allB (fun k => okD sf (dgt w k)) (i + 1)))), (5, .int (nI (dgt w i))), (4, .int (nI i)), (0, .int (nI q)), (1, .int (nI w)), (2, .int (bI sf))]) hx hb d_M_isWord_63 rfl hl (by decide) rfl (fun ls hl => ?_)
                  refine lv_iinc (v := (nI (i + 1))) (lv' := [(4, .int (nI (i + 1))), (3, .int (bI (allB (fun k => okD sf (dgt w k)) (i + 1)))), (5, .int (nI (dgt w i))), (0, .int (nI q)), (1, .int (nI w)), (2, .int (bI sf))]) hx hb d_M_isWord_64 hl (k := 2) rfl (by exact nI_1 _) (by decide) rfl (fun ls hl => ?_)
                  refine lv_goto (tgt := 19) hx hb d_M_isWord_67 (by decide) ?_
                  exact ih19 (i + 1) (by omega) (by omega) _ _ _ hP hD hS (lv_sub hl [0, 1, 3, 4, 5] rfl)
                · refine lv_iload hx hb d_M_isWord_51 (lv_at hl 0 rfl) ?_
                  refine lv_bipush (v := (nI 7)) hx hb d_M_isWord_53 (by decide) ?_
                  refine b_ne (tgt := 62) hx hb (by omega) (by decide) d_M_isWord_55 (by decide) (fun c_55 => ?_) (fun c_55 => ?_)
                  · refine lv_iconst (v := (nI 0)) hx hb d_M_isWord_62 (by decide) ?_
                    refine t_eq (y := bI (allB (fun k => okD sf (dgt w k)) (i + 1))) (by show _ = bI (_ && okD sf (dgt w i)); first | (rw [c_37]; exact bI_of_f rfl) | (rw [c_37, Bool.true_and]; refine bI_of_t ?_; unfold okD; simp [c_44]; done) | (rw [c_37, Bool.true_and]; refine bI_of_t ?_; unfold okD; simp [c_48, c_55]; done) | (rw [c_37, Bool.true_and]; refine bI_of_f ?_; unfold okD; simp [Nat.not_lt.mpr c_44, c_55]; done) | (rw [c_37, Bool.true_and]; refine bI_of_f ?_; unfold okD; simp [Nat.not_lt.mpr c_44, c_48]; done) | (rw [c_37, Bool.true_and]; refine bI_of_f ?_; unfold okD; simp [Nat.not_lt.mpr c_44, c_48, c_55]; done)) ?_
                    refine lv_istore_n (lv' := [(3, .int (bI (allB (fun k => okD sf (dgt w k)) (i + 1)))), (5, .int (nI (dgt w i))), (4, .int (nI i)), (0, .int (nI q)), (1, .int (nI w)), (2, .int (bI sf))]) hx hb d_M_isWord_63 rfl hl (by decide) rfl (fun ls hl => ?_)
                    refine lv_iinc (v := (nI (i + 1))) (lv' := [(4, .int (nI (i + 1))), (3, .int (bI (allB (fun k => okD sf (dgt w k)) (i + 1)))), (5, .int (nI (dgt w i))), (0, .int (nI q)), (1, .int (nI w)), (2, .int (bI sf))]) hx hb d_M_isWord_64 hl (k := 2) rfl (by exact nI_1 _) (by decide) rfl (fun ls hl => ?_)
                    refine lv_goto (tgt := 19) hx hb d_M_isWord_67 (by decide) ?_
                    exact ih19 (i + 1) (by omega) (by omega) _ _ _ hP hD hS (lv_sub hl [0, 1, 3, 4, 5] rfl)
                  · refine lv_iconst (v := (nI 1)) hx hb d_M_isWord_58 (by decide) ?_
                    refine lv_goto (tgt := 63) hx hb d_M_isWord_59 (by decide) ?_
                    refine t_eq (y := bI (allB (fun k => okD sf (dgt w k)) (i + 1))) (by show _ = bI (_ && okD sf (dgt w i)); first | (rw [c_37]; exact bI_of_f rfl) | (rw [c_37, Bool.true_and]; refine bI_of_t ?_; unfold okD; simp [c_44]; done) | (rw [c_37, Bool.true_and]; refine bI_of_t ?_; unfold okD; simp [c_48, c_55]; done) | (rw [c_37, Bool.true_and]; refine bI_of_f ?_; unfold okD; simp [Nat.not_lt.mpr c_44, c_55]; done) | (rw [c_37, Bool.true_and]; refine bI_of_f ?_; unfold okD; simp [Nat.not_lt.mpr c_44, c_48]; done) | (rw [c_37, Bool.true_and]; refine bI_of_f ?_; unfold okD; simp [Nat.not_lt.mpr c_44, c_48, c_55]; done)) ?_
                    refine lv_istore_n (lv' := [(3, .int (bI (allB (fun k => okD sf (dgt w k)) (i + 1)))), (5, .int (nI (dgt w i))), (4, .int (nI i)), (0, .int (nI q)), (1, .int (nI w)), (2, .int (bI sf))]) hx hb d_M_isWord_63 rfl hl (by decide) rfl (fun ls hl => ?_)
                    refine lv_iinc (v := (nI (i + 1))) (lv' := [(4, .int (nI (i + 1))), (3, .int (bI (allB (fun k => okD sf (dgt w k)) (i + 1)))), (5, .int (nI (dgt w i))), (0, .int (nI q)), (1, .int (nI w)), (2, .int (bI sf))]) hx hb d_M_isWord_64 hl (k := 2) rfl (by exact nI_1 _) (by decide) rfl (fun ls hl => ?_)
                    refine lv_goto (tgt := 19) hx hb d_M_isWord_67 (by decide) ?_
                    exact ih19 (i + 1) (by omega) (by omega) _ _ _ hP hD hS (lv_sub hl [0, 1, 3, 4, 5] rfl)
      exact L19 (q + 1) 0 (by omega) (by omega) _ _ _ hP hD hS (lv_sub hl [0, 1, 2, 3, 4] rfl)
    · have hxn := ix_sh (m := q) hw31 hq c_9
      rw [← hxw] at hxn
      refine lv_iconst (v := (nI 0)) hx hb d_M_isWord_12 (by decide) ?_
      exact ret_i C0 hr hlk hAe hS () (by rw [wordB_n hxn]; rfl) hP hD rfl (Nat.le_of_ble_eq_true rfl) (Nat.le_of_ble_eq_true rfl) d_M_isWord_13
set_option maxHeartbeats 4000000 in
set_option maxRecDepth 100000 in
theorem c_M_isRow (l : Launch) (D : va_G) (cI : ClassId) (sz : Nat) (h : Nat) (ad : Nat → Nat) (nm : Nat) (mk : Nat) (rd : Nat) (cs : Nat) (x : Int32) (y : Int32) (hnm : nm ≤ 6) : MetI l y_M_isRow b_M_isRow 6 (some .boolean) { frames := 1, cells := 0, slots := 0, locals := 22 } D cI [] sz [(h, .inr (10, oM ad nm mk rd cs))] [.ref h, .int x, .int y] (fun (r : Int32) (u : Unit) => r = (bI (rowB nm x y))) (fun u : Unit => [(h, .inr (10, oM ad nm mk rd cs))]) := by
  refine enter (by decide) (Nat.le_of_ble_eq_true rfl) ?_
  intro p e s m below meth c A ls C0 hr hlk hnm hK hsz hA hAe hP hD hS hl
  have hx := C0.1
  have hb := C0.2.1
  have hl : lv_has ls 6 [(0, .ref h), (1, .int x), (2, .int y)] := hl
  refine lv_iload_n hx hb d_M_isRow_0 rfl (lv_at hl 1 rfl) ?_
  refine lv_iconst (v := (nI 1)) hx hb d_M_isRow_1 (by decide) ?_
  refine lv_bipush (v := (nI 6)) hx hb d_M_isRow_2 (by decide) ?_
  refine call_i (rm := { frames := 0, cells := 0, slots := 0, locals := 0 }) hS hP hD hA (spl_mk (wc := []) (wr := [(h, .inr (10, oM ad nm mk rd cs))]) [] [0] rfl rfl (by decide)) (run_s (n := 3) (As := [.int x, .int (nI 1), .int (nI 6)]) (rest := []) C0 (hK.sub [] rfl) (c_M_isIn l D cI s.heap.size x (nI 1) (nI 6)) wt_758 wt_4 wt_756 wt_757 (by decide +kernel) ⟨Nat.le_of_ble_eq_true rfl, Nat.le_of_ble_eq_true rfl⟩ rfl hl.1 rfl (Nat.le_of_ble_eq_true rfl) d_M_isRow_4 ⟨Nat.le_of_ble_eq_true rfl, Nat.le_of_ble_eq_true rfl⟩) (fun r_4 _u4 H locs hw_4 hP hD hS => ?_)
  have hP : va_P D cls [(h, .inr (10, oM ad nm mk rd cs))] H := hP
  have hD : va_D A [(h, .inr (10, oM ad nm mk rd cs))] := hD
  subst hw_4
  refine y_eq (tgt := 22) hx hb d_M_isRow_7 (by decide) (fun c_7 => ?_) (fun c_7 => ?_)
  · have hiq := i1_f (by decide) c_7
    refine lv_iconst (v := (nI 0)) hx hb d_M_isRow_22 (by decide) ?_
    exact ret_i C0 hr hlk hAe hS () (by first | (rw [rowB_1 hiq hjq.1 hyn]; rfl) | (rw [rowB_0 hiq]; rfl)) hP hD rfl (Nat.le_of_ble_eq_true rfl) (Nat.le_of_ble_eq_true rfl) d_M_isRow_23
  · obtain ⟨q, hjq, hxq, hiq⟩ := i1_t (by decide) c_7
    have hl : lv_has ls 6 [(0, .ref h), (1, .int (nI q)), (2, .int y)] := by rw [← hxq]; exact hl
    refine lv_iload_n hx hb d_M_isRow_10 rfl (lv_at hl 2 rfl) ?_
    refine lv_if_lt (tgt := 22) hx hb d_M_isRow_11 (by decide) (fun c_11 => ?_) (fun c_11 => ?_)
    · have hyn := ix_neg (m := 2 ^ (3 * q)) c_11
      refine lv_iconst (v := (nI 0)) hx hb d_M_isRow_22 (by decide) ?_
      exact ret_i C0 hr hlk hAe hS () (by first | (rw [rowB_1 hiq hjq.1 hyn]; rfl) | (rw [rowB_0 hiq]; rfl)) hP hD rfl (Nat.le_of_ble_eq_true rfl) (Nat.le_of_ble_eq_true rfl) d_M_isRow_23
    · obtain ⟨w, hw31, hyw⟩ := nI_of c_11
      have hl : lv_has ls 6 [(0, .ref h), (1, .int (nI q)), (2, .int (nI w))] := by rw [← hyw]; exact hl
      refine lv_iload_n hx hb d_M_isRow_14 rfl (lv_at hl 2 rfl) ?_
      refine lv_iconst (v := (nI 3)) hx hb d_M_isRow_15 (by decide) ?_
      refine lv_iload_n hx hb d_M_isRow_16 rfl (lv_at hl 1 rfl) ?_
      refine lv_imul hx hb d_M_isRow_17 ?_
      refine t_eq (y := (nI (3 * q))) (pk_mul _ _) ?_
      refine lv_ishr hx hb d_M_isRow_18 ?_
      refine t_eq (y := (nI (w / 2 ^ (3 * q)))) (m_shr (by omega) (by omega)) ?_
      refine z_eq (tgt := 24) hx hb (Nat.lt_of_le_of_lt (Nat.div_le_self _ _) hw31) d_M_isRow_19 (by decide) (fun c_19 => ?_) (fun c_19 => ?_)
      · have hys := ix_sh0 (m := q) (by omega) c_19
        rw [← hyw] at hys
        refine lv_iconst (v := (nI 0)) hx hb d_M_isRow_24 (by decide) ?_
        refine lv_istore_n (lv' := [(3, .int (nI 0)), (0, .ref h), (1, .int (nI q)), (2, .int (nI w))]) hx hb d_M_isRow_25 rfl hl (by decide) rfl (fun ls hl => ?_)
        refine lv_iconst (v := (nI 0)) hx hb d_M_isRow_26 (by decide) ?_
        refine lv_istore (lv' := [(4, .int (nI 0)), (3, .int (nI 0)), (0, .ref h), (1, .int (nI q)), (2, .int (nI w))]) hx hb d_M_isRow_27 hl (by decide) rfl (fun ls hl => ?_)
        have hl : lv_has ls 6 [(4, .int (nI 0)), (3, .int (nI (nsF w 0))), (0, .ref h), (1, .int (nI q)), (2, .int (nI w))] := hl
        have L29 : ∀ (fuel29 : Nat) (i : Nat), (i ≤ q) → (q < i + fuel29) → (allB (rowN nm w) i = true) → ∀ (H : Heap) (locs : List Loc) (ls : Array Slot), va_P D cls [(h, .inr (10, oM ad nm mk rd cs))] H → va_D A [(h, .inr (10, oM ad nm mk rd cs))] → va_S A s.heap H locs → lv_has ls 6 [(4, .int (nI i)), (3, .int (nI (nsF w i))), (0, .ref h), (1, .int (nI q)), (2, .int (nI w))] → W p l e { frames := 1, cells := 0, slots := 0, locals := 22 } s m ([.ref h, .int x, .int y] : List Value).toArray below meth c H locs 0 0 (MQ below (pstI D [(h, .inr (10, oM ad nm mk rd cs))] sz (fun (r : Int32) (u : Unit) => r = (bI (rowB nm x y))) (fun u : Unit => [(h, .inr (10, oM ad nm mk rd cs))])) ([.ref h, .int x, .int y] : List Value).toArray s 0 0 A) (F0 m 29 ls []) := by
          intro fuel29
          induction fuel29 with
          | zero => intros; omega
          | succ fuel29 ih29 =>
            intro i hi hfu hal H locs ls hP hD hS hl
            have hns := nsF_lt w i
            refine lv_iload hx hb d_M_isRow_29 (lv_at hl 0 rfl) ?_
            refine lv_iload_n hx hb d_M_isRow_31 rfl (lv_at hl 3 rfl) ?_
            refine b_ge (tgt := 80) hx hb (by omega) (by omega) d_M_isRow_32 (by decide) (fun c_32 => ?_) (fun c_32 => ?_)
            · refine lv_iconst (v := (nI 1)) hx hb d_M_isRow_80 (by decide) ?_
              exact ret_i C0 hr hlk hAe hS () (by rw [rowB_2 hiq hjq.1 hys, show q = i by omega]; exact bI_of_t hal) hP hD rfl (Nat.le_of_ble_eq_true rfl) (Nat.le_of_ble_eq_true rfl) d_M_isRow_81
            · refine lv_iload_n hx hb d_M_isRow_35 rfl (lv_at hl 4 rfl) ?_
              refine lv_iconst (v := (nI 3)) hx hb d_M_isRow_36 (by decide) ?_
              refine lv_iload hx hb d_M_isRow_37 (lv_at hl 0 rfl) ?_
              refine lv_imul hx hb d_M_isRow_39 ?_
              refine t_eq (y := (nI (3 * i))) (pk_mul _ _) ?_
              refine lv_ishr hx hb d_M_isRow_40 ?_
              refine t_eq (y := (nI (w / 2 ^ (3 * i)))) (m_shr (by omega) (by omega)) ?_
              refine lv_bipush (v := (nI 7)) hx hb d_M_isRow_41 (by decide) ?_
              refine lv_iand hx hb d_M_isRow_43 ?_
              refine t_eq (y := (nI (dgt w i))) (m_and7 _) ?_
              have hd_43 := dgt_lt w i
              refine lv_istore (lv' := [(5, .int (nI (dgt w i))), (4, .int (nI i)), (3, .int (nI (nsF w i))), (0, .ref h), (1, .int (nI q)), (2, .int (nI w))]) hx hb d_M_isRow_44 hl (by decide) rfl (fun ls hl => ?_)
              refine lv_iload hx hb d_M_isRow_46 (lv_at hl 0 rfl) ?_
              refine lv_aload_n hx hb d_M_isRow_48 rfl (lv_at hl 3 rfl) ?_
              refine r_get C0 hK hP 0 rfl rfl i_M 0 (by decide) wt_663 (fun _ h => h) rfl d_M_isRow_49 ?_
              refine b_ge (tgt := 65) hx hb (by omega) (by omega) d_M_isRow_52 (by decide) (fun c_52 => ?_) (fun c_52 => ?_)
              · refine lv_iconst (v := (nI 0)) hx hb d_M_isRow_65 (by decide) ?_
                exact ret_i C0 hr hlk hAe hS () (by rw [rowB_2 hiq hjq.1 hys]; refine bI_of_f (allB_f (i := i) (by omega) ?_); unfold rowN; first | (rw [tb_t c_62, Bool.not_true, Bool.and_false]; done) | (rw [decide_eq_false (Nat.not_lt.mpr c_52)]; rfl)) hP hD rfl (Nat.le_of_ble_eq_true rfl) (Nat.le_of_ble_eq_true rfl) d_M_isRow_66
              · refine lv_iload_n hx hb d_M_isRow_55 rfl (lv_at hl 2 rfl) ?_
                refine lv_iload hx hb d_M_isRow_56 (lv_at hl 0 rfl) ?_
                refine lv_ishr hx hb d_M_isRow_58 ?_
                refine t_eq (y := (nI ((nsF w i) / 2 ^ (dgt w i)))) (m_shr (by omega) (by omega)) ?_
                refine lv_iconst (v := (nI 1)) hx hb d_M_isRow_59 (by decide) ?_
                refine lv_iand hx hb d_M_isRow_60 ?_
                refine t_eq (y := (nI (((nsF w i) / 2 ^ (dgt w i)) % 2))) (m_and1 _) ?_
                refine lv_iconst (v := (nI 1)) hx hb d_M_isRow_61 (by decide) ?_
                refine b_ne (tgt := 67) hx hb (by omega) (by decide) d_M_isRow_62 (by decide) (fun c_62 => ?_) (fun c_62 => ?_)
                · refine lv_iload_n hx hb d_M_isRow_67 rfl (lv_at hl 2 rfl) ?_
                  refine lv_iconst (v := (nI 1)) hx hb d_M_isRow_68 (by decide) ?_
                  refine lv_iload hx hb d_M_isRow_69 (lv_at hl 0 rfl) ?_
                  refine lv_ishl hx hb d_M_isRow_71 ?_
                  refine t_eq (y := (nI (1 * 2 ^ (dgt w i)))) (m_shl _ (by omega)) ?_
                  refine lv_ior hx hb d_M_isRow_72 ?_
                  refine t_eq (y := (nI ((nsF w i) ||| (1 * 2 ^ (dgt w i))))) (m_or _ _) ?_
                  refine t_eq (y := nI (nsF w (i + 1))) (by rw [Nat.one_mul]; rfl) ?_
                  refine lv_istore_n (lv' := [(3, .int (nI (nsF w (i + 1)))), (5, .int (nI (dgt w i))), (4, .int (nI i)), (0, .ref h), (1, .int (nI q)), (2, .int (nI w))]) hx hb d_M_isRow_73 rfl hl (by decide) rfl (fun ls hl => ?_)
                  refine lv_iinc (v := (nI (i + 1))) (lv' := [(4, .int (nI (i + 1))), (3, .int (nI (nsF w (i + 1)))), (5, .int (nI (dgt w i))), (0, .ref h), (1, .int (nI q)), (2, .int (nI w))]) hx hb d_M_isRow_74 hl (k := 2) rfl (by exact nI_1 _) (by decide) rfl (fun ls hl => ?_)
                  refine lv_goto (tgt := 29) hx hb d_M_isRow_77 (by decide) ?_
                  exact ih29 (i + 1) (by omega) (by omega) (by show (allB (rowN nm w) i && rowN nm w i) = true; rw [hal]; unfold rowN; rw [decide_eq_true c_52, tb_f c_62]; rfl) _ _ _ hP hD hS (lv_sub hl [0, 1, 3, 4, 5] rfl)
                · refine lv_iconst (v := (nI 0)) hx hb d_M_isRow_65 (by decide) ?_
                  exact ret_i C0 hr hlk hAe hS () (by rw [rowB_2 hiq hjq.1 hys]; refine bI_of_f (allB_f (i := i) (by omega) ?_); unfold rowN; first | (rw [tb_t c_62, Bool.not_true, Bool.and_false]; done) | (rw [decide_eq_false (Nat.not_lt.mpr c_52)]; rfl)) hP hD rfl (Nat.le_of_ble_eq_true rfl) (Nat.le_of_ble_eq_true rfl) d_M_isRow_66
        exact L29 (q + 1) 0 (by omega) (by omega) rfl _ _ _ hP hD hS (lv_sub hl [0, 1, 2, 3, 4] rfl)
      · have hyn := ix_sh (m := q) hw31 (by omega) c_19
        rw [← hyw] at hyn
        refine lv_iconst (v := (nI 0)) hx hb d_M_isRow_22 (by decide) ?_
        exact ret_i C0 hr hlk hAe hS () (by first | (rw [rowB_1 hiq hjq.1 hyn]; rfl) | (rw [rowB_0 hiq]; rfl)) hP hD rfl (Nat.le_of_ble_eq_true rfl) (Nat.le_of_ble_eq_true rfl) d_M_isRow_23
set_option maxHeartbeats 4000000 in
set_option maxRecDepth 100000 in
theorem c_M_take (l : Launch) (D : va_G) (cI : ClassId) (sz : Nat) (h : Nat) (ad : Nat → Nat) (nm : Nat) (mk : Nat) (rd : Nat) (cs : Nat) (dm : Nat → Nat) (rs : Nat → Int32) (rn : Nat → Int32) (k : Nat) (w : Nat) (z : Int32) (y : Int32) (hk : k < 6) (hw : w < 64) (hdm : dm k < 64) : MetI l y_M_take b_M_take 7 (some .int) { frames := 0, cells := 0, slots := 0, locals := 0 } D cI [] sz [(h, .inr (10, oM ad nm mk rd cs)), (ad 1, .inl (cI, 6, .inl (nA dm))), (ad 2, .inl (cI, 36, .inl rs)), (ad 3, .inl (cI, 36, .inl rn))] [.ref h, .int (nI k), .int (nI w), .int z, .int y] (fun (r : Int32) (u : Unit) => r = (nI (sm (fun v => w / 2 ^ v % 2) 6))) (fun u : Unit => [(h, .inr (10, oM ad nm mk rd cs)), (ad 1, .inl (cI, 6, .inl (nA (va_up dm k (dif (dm k) w))))), (ad 2, .inl (cI, 36, .inl (mkS rs (6 * k) w z 6))), (ad 3, .inl (cI, 36, .inl (mkS rn (6 * k) w y 6)))]) := by
  refine enter (by decide) (Nat.le_of_ble_eq_true rfl) ?_
  intro p e s m below meth c A ls C0 hr hlk hnm hK hsz hA hAe hP hD hS hl
  have hx := C0.1
  have hb := C0.2.1
  have hl : lv_has ls 7 [(0, .ref h), (1, .int (nI k)), (2, .int (nI w)), (3, .int z), (4, .int y)] := hl
  refine lv_iconst (v := (nI 0)) hx hb d_M_take_0 (by decide) ?_
  refine lv_istore (lv' := [(5, .int (nI 0)), (0, .ref h), (1, .int (nI k)), (2, .int (nI w)), (3, .int z), (4, .int y)]) hx hb d_M_take_1 hl (by decide) rfl (fun ls hl => ?_)
  refine lv_iconst (v := (nI 0)) hx hb d_M_take_3 (by decide) ?_
  refine lv_istore (lv' := [(6, .int (nI 0)), (5, .int (nI 0)), (0, .ref h), (1, .int (nI k)), (2, .int (nI w)), (3, .int z), (4, .int y)]) hx hb d_M_take_4 hl (by decide) rfl (fun ls hl => ?_)
  rw [show rs = mkS rs (6 * k) w z 0 from mkS_0.symm] at hP hD
  rw [show rn = mkS rn (6 * k) w y 0 from mkS_0.symm] at hP hD
  have hl : lv_has ls 7 [(6, .int (nI 0)), (5, .int (nI (sm (fun v => w / 2 ^ v % 2) 0))), (0, .ref h), (1, .int (nI k)), (2, .int (nI w)), (3, .int z), (4, .int y)] := by rw [show sm (fun v => w / 2 ^ v % 2) 0 = 0 from rfl]; exact hl
  have L6 : ∀ (fuel6 : Nat) (i : Nat), (i ≤ 6) → (6 < i + fuel6) → ∀ (H : Heap) (locs : List Loc) (ls : Array Slot), va_P D cls [(h, .inr (10, oM ad nm mk rd cs)), (ad 1, .inl (cI, 6, .inl (nA dm))), (ad 2, .inl (cI, 36, .inl (mkS rs (6 * k) w z i))), (ad 3, .inl (cI, 36, .inl (mkS rn (6 * k) w y i)))] H → va_D A [(h, .inr (10, oM ad nm mk rd cs)), (ad 1, .inl (cI, 6, .inl (nA dm))), (ad 2, .inl (cI, 36, .inl (mkS rs (6 * k) w z i))), (ad 3, .inl (cI, 36, .inl (mkS rn (6 * k) w y i)))] → va_S A s.heap H locs → lv_has ls 7 [(6, .int (nI i)), (5, .int (nI (sm (fun v => w / 2 ^ v % 2) i))), (0, .ref h), (1, .int (nI k)), (2, .int (nI w)), (3, .int z), (4, .int y)] → W p l e { frames := 0, cells := 0, slots := 0, locals := 0 } s m ([.ref h, .int (nI k), .int (nI w), .int z, .int y] : List Value).toArray below meth c H locs 0 0 (MQ below (pstI D [(h, .inr (10, oM ad nm mk rd cs)), (ad 1, .inl (cI, 6, .inl (nA dm))), (ad 2, .inl (cI, 36, .inl rs)), (ad 3, .inl (cI, 36, .inl rn))] sz (fun (r : Int32) (u : Unit) => r = (nI (sm (fun v => w / 2 ^ v % 2) 6))) (fun u : Unit => [(h, .inr (10, oM ad nm mk rd cs)), (ad 1, .inl (cI, 6, .inl (nA (va_up dm k (dif (dm k) w))))), (ad 2, .inl (cI, 36, .inl (mkS rs (6 * k) w z 6))), (ad 3, .inl (cI, 36, .inl (mkS rn (6 * k) w y 6)))])) ([.ref h, .int (nI k), .int (nI w), .int z, .int y] : List Value).toArray s 0 0 A) (F0 m 6 ls []) := by
    intro fuel6
    induction fuel6 with
    | zero => intros; omega
    | succ fuel6 ih6 =>
      intro i hi hfu H locs ls hP hD hS hl
      refine lv_iload hx hb d_M_take_6 (lv_at hl 0 rfl) ?_
      refine lv_bipush (v := (nI 6)) hx hb d_M_take_8 (by decide) ?_
      refine b_ge (tgt := 59) hx hb (by omega) (by decide) d_M_take_10 (by decide) (fun c_10 => ?_) (fun c_10 => ?_)
      · obtain rfl : i = 6 := (by omega)
        refine lv_aload_n hx hb d_M_take_59 rfl (lv_at hl 2 rfl) ?_
        refine r_get C0 hK hP 0 rfl rfl i_M 1 (by decide) wt_664 (fun _ h => h) rfl d_M_take_60 ?_
        refine lv_iload_n hx hb d_M_take_63 rfl (lv_at hl 3 rfl) ?_
        refine lv_dup2_11 hx hb d_M_take_64 rfl rfl ?_
        refine r_ald C0 hK hP 1 rfl (by omega) (by decide) d_M_take_65 ?_
        refine t_eq (y := (nI (dm k))) rfl ?_
        refine lv_iload_n hx hb d_M_take_66 rfl (lv_at hl 4 rfl) ?_
        refine lv_iconst (v := (-1)) hx hb d_M_take_67 (by decide) ?_
        refine lv_ixor hx hb d_M_take_68 ?_
        refine lv_iand hx hb d_M_take_69 ?_
        refine t_eq (y := nI (dif (dm k) w)) (dif_i _ hdm _ hw) ?_
        refine r_astN C0 hK hP hD hS 1 rfl (by omega) (by decide) d_M_take_70 (fun H locs hP hD hS => ?_)
        have hP : va_P D cls [(h, .inr (10, oM ad nm mk rd cs)), (ad 1, .inl (cI, 6, .inl (nA (va_up dm k (dif (dm k) w))))), (ad 2, .inl (cI, 36, .inl (mkS rs (6 * k) w z 6))), (ad 3, .inl (cI, 36, .inl (mkS rn (6 * k) w y 6)))] H := hP
        have hD : va_D A [(h, .inr (10, oM ad nm mk rd cs)), (ad 1, .inl (cI, 6, .inl (nA (va_up dm k (dif (dm k) w))))), (ad 2, .inl (cI, 36, .inl (mkS rs (6 * k) w z 6))), (ad 3, .inl (cI, 36, .inl (mkS rn (6 * k) w y 6)))] := hD
        refine lv_iload hx hb d_M_take_71 (lv_at hl 1 rfl) ?_
        exact ret_i C0 hr hlk hAe hS () rfl hP hD rfl (Nat.le_of_ble_eq_true rfl) (Nat.le_of_ble_eq_true rfl) d_M_take_73
      · refine lv_iload_n hx hb d_M_take_13 rfl (lv_at hl 4 rfl) ?_
        refine lv_iload hx hb d_M_take_14 (lv_at hl 0 rfl) ?_
        refine lv_ishr hx hb d_M_take_16 ?_
        refine t_eq (y := (nI (w / 2 ^ i))) (m_shr (by omega) (by omega)) ?_
        refine lv_iconst (v := (nI 1)) hx hb d_M_take_17 (by decide) ?_
        refine lv_iand hx hb d_M_take_18 ?_
        refine t_eq (y := (nI ((w / 2 ^ i) % 2))) (m_and1 _) ?_
        refine lv_iconst (v := (nI 1)) hx hb d_M_take_19 (by decide) ?_
        refine b_ne (tgt := 53) hx hb (by omega) (by decide) d_M_take_20 (by decide) (fun c_20 => ?_) (fun c_20 => ?_)
        · rw [show (mkS rs (6 * k) w z i) = mkS rs (6 * k) w z (i + 1) from mkS_f (tb_f c_20)] at hP hD
          rw [show (mkS rn (6 * k) w y i) = mkS rn (6 * k) w y (i + 1) from mkS_f (tb_f c_20)] at hP hD
          have hl : lv_has ls 7 [(6, .int (nI i)), (5, .int (nI (sm (fun v => w / 2 ^ v % 2) (i + 1)))), (0, .ref h), (1, .int (nI k)), (2, .int (nI w)), (3, .int z), (4, .int y)] := by rw [show sm (fun v => w / 2 ^ v % 2) (i + 1) = sm (fun v => w / 2 ^ v % 2) i from (by show _ + w / 2 ^ i % 2 = _; omega)]; exact hl
          refine lv_iinc (v := (nI (i + 1))) (lv' := [(6, .int (nI (i + 1))), (5, .int (nI (sm (fun v => w / 2 ^ v % 2) (i + 1)))), (0, .ref h), (1, .int (nI k)), (2, .int (nI w)), (3, .int z), (4, .int y)]) hx hb d_M_take_53 hl (k := 0) rfl (by exact nI_1 _) (by decide) rfl (fun ls hl => ?_)
          refine lv_goto (tgt := 6) hx hb d_M_take_56 (by decide) ?_
          exact ih6 (i + 1) (by omega) (by omega) _ _ _ hP hD hS (lv_sub hl [0, 1, 2, 3, 4, 5, 6] rfl)
        · refine lv_aload_n hx hb d_M_take_23 rfl (lv_at hl 2 rfl) ?_
          refine r_get C0 hK hP 0 rfl rfl i_M 2 (by decide) wt_665 (fun _ h => h) rfl d_M_take_24 ?_
          refine lv_bipush (v := (nI 6)) hx hb d_M_take_27 (by decide) ?_
          refine lv_iload_n hx hb d_M_take_29 rfl (lv_at hl 3 rfl) ?_
          refine lv_imul hx hb d_M_take_30 ?_
          refine t_eq (y := (nI (6 * k))) (pk_mul _ _) ?_
          refine lv_iload hx hb d_M_take_31 (lv_at hl 0 rfl) ?_
          refine lv_iadd hx hb d_M_take_33 ?_
          refine t_eq (y := (nI ((6 * k) + i))) (nI_add _ _) ?_
          refine lv_iload_n hx hb d_M_take_34 rfl (lv_at hl 5 rfl) ?_
          refine r_ast C0 hK hP hD hS 2 rfl (by omega) (by decide) d_M_take_35 (fun H locs hP hD hS => ?_)
          have hP : va_P D cls [(h, .inr (10, oM ad nm mk rd cs)), (ad 1, .inl (cI, 6, .inl (nA dm))), (ad 2, .inl (cI, 36, .inl (upd (mkS rs (6 * k) w z i) ((6 * k) + i) z))), (ad 3, .inl (cI, 36, .inl (mkS rn (6 * k) w y i)))] H := hP
          have hD : va_D A [(h, .inr (10, oM ad nm mk rd cs)), (ad 1, .inl (cI, 6, .inl (nA dm))), (ad 2, .inl (cI, 36, .inl (upd (mkS rs (6 * k) w z i) ((6 * k) + i) z))), (ad 3, .inl (cI, 36, .inl (mkS rn (6 * k) w y i)))] := hD
          refine lv_aload_n hx hb d_M_take_36 rfl (lv_at hl 2 rfl) ?_
          refine r_get C0 hK hP 0 rfl rfl i_M 3 (by decide) wt_666 (fun _ h => h) rfl d_M_take_37 ?_
          refine lv_bipush (v := (nI 6)) hx hb d_M_take_40 (by decide) ?_
          refine lv_iload_n hx hb d_M_take_42 rfl (lv_at hl 3 rfl) ?_
          refine lv_imul hx hb d_M_take_43 ?_
          refine t_eq (y := (nI (6 * k))) (pk_mul _ _) ?_
          refine lv_iload hx hb d_M_take_44 (lv_at hl 0 rfl) ?_
          refine lv_iadd hx hb d_M_take_46 ?_
          refine t_eq (y := (nI ((6 * k) + i))) (nI_add _ _) ?_
          refine lv_iload hx hb d_M_take_47 (lv_at hl 6 rfl) ?_
          refine r_ast C0 hK hP hD hS 3 rfl (by omega) (by decide) d_M_take_49 (fun H locs hP hD hS => ?_)
          have hP : va_P D cls [(h, .inr (10, oM ad nm mk rd cs)), (ad 1, .inl (cI, 6, .inl (nA dm))), (ad 2, .inl (cI, 36, .inl (upd (mkS rs (6 * k) w z i) ((6 * k) + i) z))), (ad 3, .inl (cI, 36, .inl (upd (mkS rn (6 * k) w y i) ((6 * k) + i) y)))] H := hP
          have hD : va_D A [(h, .inr (10, oM ad nm mk rd cs)), (ad 1, .inl (cI, 6, .inl (nA dm))), (ad 2, .inl (cI, 36, .inl (upd (mkS rs (6 * k) w z i) ((6 * k) + i) z))), (ad 3, .inl (cI, 36, .inl (upd (mkS rn (6 * k) w y i) ((6 * k) + i) y)))] := hD
          refine lv_iinc (v := (nI (sm (fun v => w / 2 ^ v % 2) i + 1))) (lv' := [(5, .int (nI (sm (fun v => w / 2 ^ v % 2) i + 1))), (6, .int (nI i)), (0, .ref h), (1, .int (nI k)), (2, .int (nI w)), (3, .int z), (4, .int y)]) hx hb d_M_take_50 hl (k := 1) rfl (by exact nI_1 _) (by decide) rfl (fun ls hl => ?_)
          rw [show (upd (mkS rs (6 * k) w z i) ((6 * k) + i) z) = mkS rs (6 * k) w z (i + 1) from mkS_t (tb_t c_20)] at hP hD
          rw [show (upd (mkS rn (6 * k) w y i) ((6 * k) + i) y) = mkS rn (6 * k) w y (i + 1) from mkS_t (tb_t c_20)] at hP hD
          have hl : lv_has ls 7 [(5, .int (nI (sm (fun v => w / 2 ^ v % 2) (i + 1)))), (6, .int (nI i)), (0, .ref h), (1, .int (nI k)), (2, .int (nI w)), (3, .int z), (4, .int y)] := by rw [show sm (fun v => w / 2 ^ v % 2) (i + 1) = sm (fun v => w / 2 ^ v % 2) i + 1 from (by show _ + w / 2 ^ i % 2 = _; rw [c_20])]; exact hl
          refine lv_iinc (v := (nI (i + 1))) (lv' := [(6, .int (nI (i + 1))), (5, .int (nI (sm (fun v => w / 2 ^ v % 2) (i + 1)))), (0, .ref h), (1, .int (nI k)), (2, .int (nI w)), (3, .int z), (4, .int y)]) hx hb d_M_take_53 hl (k := 1) rfl (by exact nI_1 _) (by decide) rfl (fun ls hl => ?_)
          refine lv_goto (tgt := 6) hx hb d_M_take_56 (by decide) ?_
          exact ih6 (i + 1) (by omega) (by omega) _ _ _ hP hD hS (lv_sub hl [0, 1, 2, 3, 4, 5, 6] rfl)
  exact L6 (7) 0 (by omega) (by omega) _ _ _ hP hD hS (lv_sub hl [0, 1, 2, 3, 4, 5, 6] rfl)
