theorem ts5 (x : Int32) : (ixN x 5 = none ∧ (x.toInt < 0 ∨ 4 < x.toInt)) ∨ (x = nI 0 ∧ ixN x 5 = some 0) ∨ (x = nI 1 ∧ ixN x 5 = some 1) ∨ (x = nI 2 ∧ ixN x 5 = some 2) ∨ (x = nI 3 ∧ ixN x 5 = some 3) ∨ (x = nI 4 ∧ ixN x 5 = some 4) := by
  by_cases g : 0 ≤ x.toInt ∧ x.toInt < ((5 : Nat) : Int)
  · obtain ⟨j, h1, h2, h3⟩ := ix_of (x := x) (m := 5) (by decide) g
    rcases (show j = 0 ∨ j = 1 ∨ j = 2 ∨ j = 3 ∨ j = 4 by omega) with rfl | rfl | rfl | rfl | rfl
    · exact Or.inr (Or.inl ⟨h2, h3⟩)
    · exact Or.inr (Or.inr (Or.inl ⟨h2, h3⟩))
    · exact Or.inr (Or.inr (Or.inr (Or.inl ⟨h2, h3⟩)))
    · exact Or.inr (Or.inr (Or.inr (Or.inr (Or.inl ⟨h2, h3⟩))))
    · exact Or.inr (Or.inr (Or.inr (Or.inr (Or.inr ⟨h2, h3⟩))))
  · exact Or.inl ⟨ix_none g, by omega⟩
theorem fil_cg {f : Nat → Int32} {a b i : Nat} {h : Nat → Int32} (e : a = b) : fil f a h i = fil f b h i := by rw [e]
theorem nmS_0 {nm mk : Nat} {dm : Nat → Nat} {rs rn : Nat → Int32} {o : Option Nat} (h : o = none ∨ o = some 0) : ((-2 : Int32), nm, dm, rs, rn) = nmS nm mk dm rs rn o := by
  rcases h with h | h <;> rw [h] <;> rfl
set_option maxHeartbeats 4000000 in
set_option maxRecDepth 100000 in
theorem c_TC_of (l : Launch) (D : va_G) (cI : ClassId) (sz : Nat) (h : Nat) (an : Nat) (am : Nat) (ak : Nat) (ap : Nat) (ac : Nat) (nm : Nat) (cs : Nat) (mk : Nat) (lr : Nat) (cd : Nat) (cr : Nat) (cn : Nat) (dm : Nat → Nat) (x : Int32) (hdm : ∀ j, dm j < 64) : MetI l y_TC_of b_TC_of 2 (some .int) { frames := 2, cells := 0, slots := 0, locals := 42 } D cI [] sz [(h, .inr (0, [.ref an, .ref am, .ref ak, .ref ap, .ref ac, .int (nI nm), .int (nI cs), .int (nI mk), .int (nI lr)])), (an, .inr (1, [.ref cd, .ref cr, .ref cn])), (cd, .inl (cI, 6, .inl (nA dm)))] [.ref h, .int x] (fun (r : Int32) (u : Unit) => r = ofS nm cs mk lr (sm (fun i0 => pc6 (dm i0)) 6) (ixN x 5)) (fun u : Unit => [(h, .inr (0, [.ref an, .ref am, .ref ak, .ref ap, .ref ac, .int (nI nm), .int (nI cs), .int (nI mk), .int (nI lr)])), (an, .inr (1, [.ref cd, .ref cr, .ref cn])), (cd, .inl (cI, 6, .inl (nA dm)))]) := by
  refine enter (by decide) (Nat.le_of_ble_eq_true rfl) ?_
  intro p e s m below meth c A ls C0 hr hlk hnm hK hsz hA hAe hP hD hS hl
  have hx := C0.1
  have hb := C0.2.1
  have hl : lv_has ls 2 [(0, .ref h), (1, .int x)] := hl
  refine lv_iload_n hx hb d_TC_of_0 rfl (lv_at hl 1 rfl) ?_
  rcases ts5 x with hts | hts | hts | hts | hts | hts
  · refine lv_tableOut (tgt := 61) hx hb d_TC_of_1 hts.2 (by decide) ?_
    refine lv_bipush (v := (-2)) hx hb d_TC_of_61 (by decide) ?_
    exact ret_i C0 hr hlk hAe hS () (by rw [hts.1]; rfl) hP hD rfl (Nat.le_of_ble_eq_true rfl) (Nat.le_of_ble_eq_true rfl) d_TC_of_63
  · refine t_eq (y := nI 0) hts.1 ?_
    refine lv_tableIn (tgt := 36) (off := 35) hx hb d_TC_of_1 (by decide) (by decide) rfl (by decide) ?_
    refine lv_aload_n hx hb d_TC_of_36 rfl (lv_at hl 0 rfl) ?_
    refine r_get C0 hK hP 0 rfl rfl i_TC 5 (by decide) wt_92 (fun _ h => h) rfl d_TC_of_37 ?_
    exact ret_i C0 hr hlk hAe hS () (by rw [hts.2]; rfl) hP hD rfl (Nat.le_of_ble_eq_true rfl) (Nat.le_of_ble_eq_true rfl) d_TC_of_40
  · refine t_eq (y := nI 1) hts.1 ?_
    refine lv_tableIn (tgt := 41) (off := 40) hx hb d_TC_of_1 (by decide) (by decide) rfl (by decide) ?_
    refine lv_aload_n hx hb d_TC_of_41 rfl (lv_at hl 0 rfl) ?_
    refine r_get C0 hK hP 0 rfl rfl i_TC 6 (by decide) wt_93 (fun _ h => h) rfl d_TC_of_42 ?_
    exact ret_i C0 hr hlk hAe hS () (by rw [hts.2]; rfl) hP hD rfl (Nat.le_of_ble_eq_true rfl) (Nat.le_of_ble_eq_true rfl) d_TC_of_45
  · refine t_eq (y := nI 2) hts.1 ?_
    refine lv_tableIn (tgt := 46) (off := 45) hx hb d_TC_of_1 (by decide) (by decide) rfl (by decide) ?_
    refine lv_aload_n hx hb d_TC_of_46 rfl (lv_at hl 0 rfl) ?_
    refine r_get C0 hK hP 0 rfl rfl i_TC 7 (by decide) wt_94 (fun _ h => h) rfl d_TC_of_47 ?_
    exact ret_i C0 hr hlk hAe hS () (by rw [hts.2]; rfl) hP hD rfl (Nat.le_of_ble_eq_true rfl) (Nat.le_of_ble_eq_true rfl) d_TC_of_50
  · refine t_eq (y := nI 3) hts.1 ?_
    refine lv_tableIn (tgt := 51) (off := 50) hx hb d_TC_of_1 (by decide) (by decide) rfl (by decide) ?_
    refine lv_aload_n hx hb d_TC_of_51 rfl (lv_at hl 0 rfl) ?_
    refine r_get C0 hK hP 0 rfl rfl i_TC 8 (by decide) wt_95 (fun _ h => h) rfl d_TC_of_52 ?_
    exact ret_i C0 hr hlk hAe hS () (by rw [hts.2]; rfl) hP hD rfl (Nat.le_of_ble_eq_true rfl) (Nat.le_of_ble_eq_true rfl) d_TC_of_55
  · refine t_eq (y := nI 4) hts.1 ?_
    refine lv_tableIn (tgt := 56) (off := 55) hx hb d_TC_of_1 (by decide) (by decide) rfl (by decide) ?_
    refine lv_aload_n hx hb d_TC_of_56 rfl (lv_at hl 0 rfl) ?_
    refine call_i (rm := { frames := 1, cells := 0, slots := 0, locals := 20 }) hS hP hD hA (spl_mk (wc := [(h, .inr (0, [.ref an, .ref am, .ref ak, .ref ap, .ref ac, .int (nI nm), .int (nI cs), .int (nI mk), .int (nI lr)])), (an, .inr (1, [.ref cd, .ref cr, .ref cn])), (cd, .inl (cI, 6, .inl (nA dm)))]) (wr := []) [0, 1, 2] [] rfl rfl (by decide)) (run_v (n := 0) (As := []) (rest := []) (q0 := 0) (ci := 0) C0 (hK.sub [] rfl) (c_TC_valuesInAll l D cI s.heap.size h an am ak ap ac nm cs mk lr cd cr cn dm hdm) rfl rfl wt_656 wt_1 wt_653 wt_655 wp_17 (by decide +kernel) ⟨Nat.le_of_ble_eq_true rfl, Nat.le_of_ble_eq_true rfl⟩ rfl hl.1 rfl (Nat.le_of_ble_eq_true rfl) d_TC_of_57 ⟨Nat.le_of_ble_eq_true rfl, Nat.le_of_ble_eq_true rfl⟩) (fun r_57 _u57 H locs hw_57 hP hD hS => ?_)
    have hP : va_P D cls [(h, .inr (0, [.ref an, .ref am, .ref ak, .ref ap, .ref ac, .int (nI nm), .int (nI cs), .int (nI mk), .int (nI lr)])), (an, .inr (1, [.ref cd, .ref cr, .ref cn])), (cd, .inl (cI, 6, .inl (nA dm)))] H := hP
    have hD : va_D A [(h, .inr (0, [.ref an, .ref am, .ref ak, .ref ap, .ref ac, .int (nI nm), .int (nI cs), .int (nI mk), .int (nI lr)])), (an, .inr (1, [.ref cd, .ref cr, .ref cn])), (cd, .inl (cI, 6, .inl (nA dm)))] := hD
    subst hw_57
    exact ret_i C0 hr hlk hAe hS () (by rw [hts.2]; rfl) hP hD rfl (Nat.le_of_ble_eq_true rfl) (Nat.le_of_ble_eq_true rfl) d_TC_of_60
set_option maxHeartbeats 4000000 in
set_option maxRecDepth 100000 in
theorem c_TC_name (l : Launch) (D : va_G) (cI : ClassId) (sz : Nat) (h : Nat) (an : Nat) (am : Nat) (ak : Nat) (ap : Nat) (ac : Nat) (nm : Nat) (cs : Nat) (mk : Nat) (lr : Nat) (cd : Nat) (cr : Nat) (cn : Nat) (dm : Nat → Nat) (rs : Nat → Int32) (rn : Nat → Int32) (x : Int32) (hn6 : nm ≤ 6) (hm8 : mk ≤ 8) : MetI l y_TC_name b_TC_name 2 (some .int) { frames := 1, cells := 0, slots := 0, locals := 23 } D cI [] sz [(h, .inr (0, [.ref an, .ref am, .ref ak, .ref ap, .ref ac, .int (nI nm), .int (nI cs), .int (nI mk), .int (nI lr)])), (an, .inr (1, [.ref cd, .ref cr, .ref cn])), (cd, .inl (cI, 6, .inl (nA dm))), (cr, .inl (cI, 36, .inl rs)), (cn, .inl (cI, 36, .inl rn))] [.ref h, .int x] (fun (r : Int32) (u : nmT) => (r, u) = nmS nm mk dm rs rn (ixN x 7)) (fun u : nmT => [(h, .inr (0, [.ref an, .ref am, .ref ak, .ref ap, .ref ac, .int (nI u.1), .int (nI cs), .int (nI mk), .int (nI lr)])), (an, .inr (1, [.ref cd, .ref cr, .ref cn])), (cd, .inl (cI, 6, .inl (nA u.2.1))), (cr, .inl (cI, 36, .inl u.2.2.1)), (cn, .inl (cI, 36, .inl u.2.2.2))]) := by
  refine enter (by decide) (Nat.le_of_ble_eq_true rfl) ?_
  intro p e s m below meth c A ls C0 hr hlk hnm hK hsz hA hAe hP hD hS hl
  have hx := C0.1
  have hb := C0.2.1
  have hl : lv_has ls 2 [(0, .ref h), (1, .int x)] := hl
  refine lv_iload_n hx hb d_TC_name_0 rfl (lv_at hl 1 rfl) ?_
  refine lv_iconst (v := (nI 1)) hx hb d_TC_name_1 (by decide) ?_
  refine lv_bipush (v := (nI 6)) hx hb d_TC_name_2 (by decide) ?_
  refine call_i (rm := { frames := 0, cells := 0, slots := 0, locals := 0 }) hS hP hD hA (spl_mk (wc := []) (wr := [(h, .inr (0, [.ref an, .ref am, .ref ak, .ref ap, .ref ac, .int (nI nm), .int (nI cs), .int (nI mk), .int (nI lr)])), (an, .inr (1, [.ref cd, .ref cr, .ref cn])), (cd, .inl (cI, 6, .inl (nA dm))), (cr, .inl (cI, 36, .inl rs)), (cn, .inl (cI, 36, .inl rn))]) [] [0, 1, 2, 3, 4] rfl rfl (by decide)) (run_s (n := 3) (As := [.int x, .int (nI 1), .int (nI 6)]) (rest := []) C0 (hK.sub [] rfl) (c_TC_isIn l D cI s.heap.size x (nI 1) (nI 6)) wt_125 wt_1 wt_123 wt_124 (by decide +kernel) ⟨Nat.le_of_ble_eq_true rfl, Nat.le_of_ble_eq_true rfl⟩ rfl hl.1 rfl (Nat.le_of_ble_eq_true rfl) d_TC_name_4 ⟨Nat.le_of_ble_eq_true rfl, Nat.le_of_ble_eq_true rfl⟩) (fun r_4 _u4 H locs hw_4 hP hD hS => ?_)
  have hP : va_P D cls [(h, .inr (0, [.ref an, .ref am, .ref ak, .ref ap, .ref ac, .int (nI nm), .int (nI cs), .int (nI mk), .int (nI lr)])), (an, .inr (1, [.ref cd, .ref cr, .ref cn])), (cd, .inl (cI, 6, .inl (nA dm))), (cr, .inl (cI, 36, .inl rs)), (cn, .inl (cI, 36, .inl rn))] H := hP
  have hD : va_D A [(h, .inr (0, [.ref an, .ref am, .ref ak, .ref ap, .ref ac, .int (nI nm), .int (nI cs), .int (nI mk), .int (nI lr)])), (an, .inr (1, [.ref cd, .ref cr, .ref cn])), (cd, .inl (cI, 6, .inl (nA dm))), (cr, .inl (cI, 36, .inl rs)), (cn, .inl (cI, 36, .inl rn))] := hD
  subst hw_4
  refine y_ne (tgt := 13) hx hb d_TC_name_7 (by decide) (fun c_7 => ?_) (fun c_7 => ?_)
  · obtain ⟨v, hjv, hxv, hiv⟩ := i1_t (by decide) c_7
    have hl : lv_has ls 2 [(0, .ref h), (1, .int (nI v))] := by rw [← hxv]; exact hl
    refine lv_aload_n hx hb d_TC_name_13 rfl (lv_at hl 0 rfl) ?_
    refine r_get C0 hK hP 0 rfl rfl i_TC 7 (by decide) wt_94 (fun _ h => h) rfl d_TC_name_14 ?_
    refine z_le (tgt := 23) hx hb (by omega) d_TC_name_17 (by decide) (fun c_17 => ?_) (fun c_17 => ?_)
    · refine lv_aload_n hx hb d_TC_name_23 rfl (lv_at hl 0 rfl) ?_
      refine r_get C0 hK hP 0 rfl rfl i_TC 5 (by decide) wt_92 (fun _ h => h) rfl d_TC_name_24 ?_
      refine lv_bipush (v := (nI 6)) hx hb d_TC_name_27 (by decide) ?_
      refine b_lt (tgt := 35) hx hb (by omega) (by decide) d_TC_name_29 (by decide) (fun c_29 => ?_) (fun c_29 => ?_)
      · refine lv_aload_n hx hb d_TC_name_35 rfl (lv_at hl 0 rfl) ?_
        refine r_get C0 hK hP 0 rfl rfl i_TC 0 (by decide) wt_87 (fun _ h => h) rfl d_TC_name_36 ?_
        refine lv_aload_n hx hb d_TC_name_39 rfl (lv_at hl 0 rfl) ?_
        refine r_get C0 hK hP 0 rfl rfl i_TC 5 (by decide) wt_92 (fun _ h => h) rfl d_TC_name_40 ?_
        refine lv_iload_n hx hb d_TC_name_43 rfl (lv_at hl 1 rfl) ?_
        refine call_v (rm := { frames := 0, cells := 0, slots := 0, locals := 0 }) hS hP hD hA (spl_mk (wc := [(an, .inr (1, [.ref cd, .ref cr, .ref cn])), (cd, .inl (cI, 6, .inl (nA dm))), (cr, .inl (cI, 36, .inl rs)), (cn, .inl (cI, 36, .inl rn))]) (wr := [(h, .inr (0, [.ref an, .ref am, .ref ak, .ref ap, .ref ac, .int (nI nm), .int (nI cs), .int (nI mk), .int (nI lr)]))]) [1, 2, 3, 4] [0] rfl rfl (by decide)) (run_v (n := 2) (As := [.int (nI nm), .int (nI v)]) (rest := []) (q0 := 0) (ci := 1) C0 (hK.sub [] rfl) (c_Ch_begin l D cI H.size an cd cr cn dm rs rn nm v (by omega) (by omega)) rfl rfl wt_129 wt_2 wt_126 wt_127 wt_128 (by decide +kernel) ⟨Nat.le_of_ble_eq_true rfl, Nat.le_of_ble_eq_true rfl⟩ rfl hl.1 rfl (Nat.le_of_ble_eq_true rfl) d_TC_name_44 ⟨Nat.le_of_ble_eq_true rfl, Nat.le_of_ble_eq_true rfl⟩) (fun _u44 H locs hw_44 hP hD hS => ?_)
        have hP : va_P D cls [(h, .inr (0, [.ref an, .ref am, .ref ak, .ref ap, .ref ac, .int (nI nm), .int (nI cs), .int (nI mk), .int (nI lr)])), (an, .inr (1, [.ref cd, .ref cr, .ref cn])), (cd, .inl (cI, 6, .inl (nA (va_up dm nm (1 * 2 ^ v - 1))))), (cr, .inl (cI, 36, .inl (fil rs (nm * 6) (bgR v) 6))), (cn, .inl (cI, 36, .inl (fil rn (nm * 6) (fun _ => nI 0) 6)))] H := hP
        have hD : va_D A [(h, .inr (0, [.ref an, .ref am, .ref ak, .ref ap, .ref ac, .int (nI nm), .int (nI cs), .int (nI mk), .int (nI lr)])), (an, .inr (1, [.ref cd, .ref cr, .ref cn])), (cd, .inl (cI, 6, .inl (nA (va_up dm nm (1 * 2 ^ v - 1))))), (cr, .inl (cI, 36, .inl (fil rs (nm * 6) (bgR v) 6))), (cn, .inl (cI, 36, .inl (fil rn (nm * 6) (fun _ => nI 0) 6)))] := hD
        refine lv_aload_n hx hb d_TC_name_47 rfl (lv_at hl 0 rfl) ?_
        refine lv_dup hx hb d_TC_name_48 rfl ?_
        refine r_get C0 hK hP 0 rfl rfl i_TC 5 (by decide) wt_92 (fun _ h => h) rfl d_TC_name_49 ?_
        refine lv_iconst (v := (nI 1)) hx hb d_TC_name_52 (by decide) ?_
        refine lv_iadd hx hb d_TC_name_53 ?_
        refine t_eq (y := (nI (nm + 1))) (nI_add _ _) ?_
        refine r_put C0 hK hP hD hS 0 rfl rfl i_TC t_TC k_TC n_TC 5 (by decide) wt_92 (fun _ h => h) rfl rfl rfl (Nat.le_of_ble_eq_true rfl) d_TC_name_54 (fun H locs hP hD hS => ?_)
        have hP : va_P D cls [(h, .inr (0, [.ref an, .ref am, .ref ak, .ref ap, .ref ac, .int (nI (nm + 1)), .int (nI cs), .int (nI mk), .int (nI lr)])), (an, .inr (1, [.ref cd, .ref cr, .ref cn])), (cd, .inl (cI, 6, .inl (nA (va_up dm nm (1 * 2 ^ v - 1))))), (cr, .inl (cI, 36, .inl (fil rs (nm * 6) (bgR v) 6))), (cn, .inl (cI, 36, .inl (fil rn (nm * 6) (fun _ => nI 0) 6)))] H := hP
        have hD : va_D A [(h, .inr (0, [.ref an, .ref am, .ref ak, .ref ap, .ref ac, .int (nI (nm + 1)), .int (nI cs), .int (nI mk), .int (nI lr)])), (an, .inr (1, [.ref cd, .ref cr, .ref cn])), (cd, .inl (cI, 6, .inl (nA (va_up dm nm (1 * 2 ^ v - 1))))), (cr, .inl (cI, 36, .inl (fil rs (nm * 6) (bgR v) 6))), (cn, .inl (cI, 36, .inl (fil rn (nm * 6) (fun _ => nI 0) 6)))] := hD
        refine lv_aload_n hx hb d_TC_name_57 rfl (lv_at hl 0 rfl) ?_
        refine r_get C0 hK hP 0 rfl rfl i_TC 5 (by decide) wt_92 (fun _ h => h) rfl d_TC_name_58 ?_
        refine lv_iconst (v := (nI 1)) hx hb d_TC_name_61 (by decide) ?_
        refine lv_isub hx hb d_TC_name_62 ?_
        refine t_eq (y := (nI ((nm + 1) - 1))) (pk_sub (by omega)) ?_
        exact ret_i C0 hr hlk hAe hS (nm + 1, va_up dm nm (1 * 2 ^ v - 1), fil rs (nm * 6) (bgR v) 6, fil rn (nm * 6) (fun _ => nI 0) 6) (by rw [hiv]; show _ = (if _ then _ else _); rw [if_neg (by omega), if_neg (by omega), if_neg (by omega), Nat.mul_comm nm 6]; rfl) hP hD rfl (Nat.le_of_ble_eq_true rfl) (Nat.le_of_ble_eq_true rfl) d_TC_name_63
      · refine lv_bipush (v := (-3)) hx hb d_TC_name_32 (by decide) ?_
        exact ret_i C0 hr hlk hAe hS (nm, dm, rs, rn) (by rw [hiv]; show _ = (if _ then _ else _); rw [if_neg (by omega), if_neg (by omega), if_pos (by omega)]) hP hD rfl (Nat.le_of_ble_eq_true rfl) (Nat.le_of_ble_eq_true rfl) d_TC_name_34
    · refine lv_bipush (v := (-5)) hx hb d_TC_name_20 (by decide) ?_
      exact ret_i C0 hr hlk hAe hS (nm, dm, rs, rn) (by rw [hiv]; show _ = (if _ then _ else _); rw [if_neg (by omega), if_pos c_17]) hP hD rfl (Nat.le_of_ble_eq_true rfl) (Nat.le_of_ble_eq_true rfl) d_TC_name_22
  · have hiv := i1_f (by decide) c_7
    refine lv_bipush (v := (-2)) hx hb d_TC_name_10 (by decide) ?_
    exact ret_i C0 hr hlk hAe hS (nm, dm, rs, rn) (nmS_0 hiv) hP hD rfl (Nat.le_of_ble_eq_true rfl) (Nat.le_of_ble_eq_true rfl) d_TC_name_12
set_option maxHeartbeats 4000000 in
set_option maxRecDepth 100000 in
theorem c_TC_cut (l : Launch) (D : va_G) (cI : ClassId) (sz : Nat) (h : Nat) (an : Nat) (am : Nat) (ak : Nat) (ap : Nat) (ac : Nat) (nm : Nat) (cs : Nat) (mk : Nat) (lr : Nat) (cd : Nat) (cr : Nat) (cn : Nat) (dm : Nat → Nat) (rs : Nat → Int32) (rn : Nat → Int32) (x : Int32) (y : Int32) (hn6 : nm ≤ 6) (hdm : ∀ i, dm i < 64) : MetI l y_TC_cut b_TC_cut 3 (some .int) { frames := 2, cells := 0, slots := 0, locals := 47 } D cI [] sz [(h, .inr (0, [.ref an, .ref am, .ref ak, .ref ap, .ref ac, .int (nI nm), .int (nI cs), .int (nI mk), .int (nI lr)])), (an, .inr (1, [.ref cd, .ref cr, .ref cn])), (cd, .inl (cI, 6, .inl (nA dm))), (cr, .inl (cI, 36, .inl rs)), (cn, .inl (cI, 36, .inl rn))] [.ref h, .int x, .int y] (fun (r : Int32) (u : ctT) => (r, u) = cutS dm rs rn (oCut nm x y)) (fun u : ctT => [(h, .inr (0, [.ref an, .ref am, .ref ak, .ref ap, .ref ac, .int (nI nm), .int (nI cs), .int (nI mk), .int (nI lr)])), (an, .inr (1, [.ref cd, .ref cr, .ref cn])), (cd, .inl (cI, 6, .inl (nA u.1))), (cr, .inl (cI, 36, .inl u.2.1)), (cn, .inl (cI, 36, .inl u.2.2))]) := by
  refine enter (by decide) (Nat.le_of_ble_eq_true rfl) ?_
  intro p e s m below meth c A ls C0 hr hlk hnm hK hsz hA hAe hP hD hS hl
  have hx := C0.1
  have hb := C0.2.1
  have hl : lv_has ls 3 [(0, .ref h), (1, .int x), (2, .int y)] := hl
  refine lv_aload_n hx hb d_TC_cut_0 rfl (lv_at hl 0 rfl) ?_
  refine lv_iload_n hx hb d_TC_cut_1 rfl (lv_at hl 1 rfl) ?_
  refine call_i (rm := { frames := 1, cells := 0, slots := 0, locals := 22 }) hS hP hD hA (spl_mk (wc := [(h, .inr (0, [.ref an, .ref am, .ref ak, .ref ap, .ref ac, .int (nI nm), .int (nI cs), .int (nI mk), .int (nI lr)]))]) (wr := [(an, .inr (1, [.ref cd, .ref cr, .ref cn])), (cd, .inl (cI, 6, .inl (nA dm))), (cr, .inl (cI, 36, .inl rs)), (cn, .inl (cI, 36, .inl rn))]) [0] [1, 2, 3, 4] rfl rfl (by decide)) (run_v (n := 1) (As := [.int x]) (rest := []) (q0 := 0) (ci := 0) C0 (hK.sub [] rfl) (c_TC_isName l D cI s.heap.size h an am ak ap ac nm cs mk lr x (by omega)) rfl rfl wt_144 wt_1 wt_141 wt_143 wp_1 (by decide +kernel) ⟨Nat.le_of_ble_eq_true rfl, Nat.le_of_ble_eq_true rfl⟩ rfl hl.1 rfl (Nat.le_of_ble_eq_true rfl) d_TC_cut_2 ⟨Nat.le_of_ble_eq_true rfl, Nat.le_of_ble_eq_true rfl⟩) (fun r_2 _u2 H locs hw_2 hP hD hS => ?_)
  have hP : va_P D cls [(an, .inr (1, [.ref cd, .ref cr, .ref cn])), (cd, .inl (cI, 6, .inl (nA dm))), (cr, .inl (cI, 36, .inl rs)), (cn, .inl (cI, 36, .inl rn)), (h, .inr (0, [.ref an, .ref am, .ref ak, .ref ap, .ref ac, .int (nI nm), .int (nI cs), .int (nI mk), .int (nI lr)]))] H := hP
  have hD : va_D A [(an, .inr (1, [.ref cd, .ref cr, .ref cn])), (cd, .inl (cI, 6, .inl (nA dm))), (cr, .inl (cI, 36, .inl rs)), (cn, .inl (cI, 36, .inl rn)), (h, .inr (0, [.ref an, .ref am, .ref ak, .ref ap, .ref ac, .int (nI nm), .int (nI cs), .int (nI mk), .int (nI lr)]))] := hD
  subst hw_2
  refine y_eq (tgt := 18) hx hb d_TC_cut_5 (by decide) (fun c_5 => ?_) (fun c_5 => ?_)
  · have hij := isSome_f (by omega) c_5
    have hoc : oCut nm x y = none := by unfold oCut; rw [hij]; rfl
    refine lv_bipush (v := (-2)) hx hb d_TC_cut_18 (by decide) ?_
    exact ret_i C0 hr hlk hAe hS (dm, rs, rn) (by rw [hoc]; rfl) (hP.sub [4, 0, 1, 2, 3] rfl) (hD.sub [4, 0, 1, 2, 3] (by decide) rfl) rfl (Nat.le_of_ble_eq_true rfl) (Nat.le_of_ble_eq_true rfl) d_TC_cut_20
  · obtain ⟨j, hjj, hxj, hij⟩ := isSome_t (by omega) c_5
    have hl : lv_has ls 3 [(0, .ref h), (1, .int (nI j)), (2, .int y)] := by rw [← hxj]; exact hl
    refine lv_iload_n hx hb d_TC_cut_8 rfl (lv_at hl 2 rfl) ?_
    refine lv_iconst (v := (nI 0)) hx hb d_TC_cut_9 (by decide) ?_
    refine lv_bipush (v := (nI 63)) hx hb d_TC_cut_10 (by decide) ?_
    refine call_i (rm := { frames := 0, cells := 0, slots := 0, locals := 0 }) hS hP hD hA (spl_mk (wc := []) (wr := [(an, .inr (1, [.ref cd, .ref cr, .ref cn])), (cd, .inl (cI, 6, .inl (nA dm))), (cr, .inl (cI, 36, .inl rs)), (cn, .inl (cI, 36, .inl rn)), (h, .inr (0, [.ref an, .ref am, .ref ak, .ref ap, .ref ac, .int (nI nm), .int (nI cs), .int (nI mk), .int (nI lr)]))]) [] [0, 1, 2, 3, 4] rfl rfl (by decide)) (run_s (n := 3) (As := [.int y, .int (nI 0), .int (nI 63)]) (rest := []) C0 (hK.sub [] rfl) (c_TC_isIn l D cI H.size y (nI 0) (nI 63)) wt_125 wt_1 wt_123 wt_124 (by decide +kernel) ⟨Nat.le_of_ble_eq_true rfl, Nat.le_of_ble_eq_true rfl⟩ rfl hl.1 rfl (Nat.le_of_ble_eq_true rfl) d_TC_cut_12 ⟨Nat.le_of_ble_eq_true rfl, Nat.le_of_ble_eq_true rfl⟩) (fun r_12 _u12 H locs hw_12 hP hD hS => ?_)
    have hP : va_P D cls [(an, .inr (1, [.ref cd, .ref cr, .ref cn])), (cd, .inl (cI, 6, .inl (nA dm))), (cr, .inl (cI, 36, .inl rs)), (cn, .inl (cI, 36, .inl rn)), (h, .inr (0, [.ref an, .ref am, .ref ak, .ref ap, .ref ac, .int (nI nm), .int (nI cs), .int (nI mk), .int (nI lr)]))] H := hP
    have hD : va_D A [(an, .inr (1, [.ref cd, .ref cr, .ref cn])), (cd, .inl (cI, 6, .inl (nA dm))), (cr, .inl (cI, 36, .inl rs)), (cn, .inl (cI, 36, .inl rn)), (h, .inr (0, [.ref an, .ref am, .ref ak, .ref ap, .ref ac, .int (nI nm), .int (nI cs), .int (nI mk), .int (nI lr)]))] := hD
    subst hw_12
    refine y_ne (tgt := 21) hx hb d_TC_cut_15 (by decide) (fun c_15 => ?_) (fun c_15 => ?_)
    · obtain ⟨w, hjw, hxw, hiw⟩ := ik_t (by decide) c_15
      have hl : lv_has ls 3 [(0, .ref h), (1, .int (nI j)), (2, .int (nI w))] := by rw [← hxw]; exact hl
      have hoc : oCut nm x y = some (j, w) := by unfold oCut; rw [hij]; show (ixN y 64).map _ = _; rw [hiw]; rfl
      have hd64 := hdm j
      have han : dm j &&& w < 64 := Nat.lt_of_le_of_lt Nat.and_le_left hd64
      refine lv_aload_n hx hb d_TC_cut_21 rfl (lv_at hl 0 rfl) ?_
      refine r_get C0 hK hP 4 rfl rfl i_TC 0 (by decide) wt_87 (fun _ h => h) rfl d_TC_cut_22 ?_
      refine r_get C0 hK hP 0 rfl rfl i_Ch 0 (by decide) wt_32 (fun _ h => h) rfl d_TC_cut_25 ?_
      refine lv_iload_n hx hb d_TC_cut_28 rfl (lv_at hl 1 rfl) ?_
      refine r_ald C0 hK hP 1 rfl (by omega) (by decide) d_TC_cut_29 ?_
      refine t_eq (y := (nI (dm j))) rfl ?_
      refine lv_iload_n hx hb d_TC_cut_30 rfl (lv_at hl 2 rfl) ?_
      refine lv_iand hx hb d_TC_cut_31 ?_
      refine t_eq (y := (nI ((dm j) &&& w))) (m_and _ _) ?_
      refine z_ne (tgt := 38) hx hb (by omega) d_TC_cut_32 (by decide) (fun c_32 => ?_) (fun c_32 => ?_)
      · refine lv_aload_n hx hb d_TC_cut_38 rfl (lv_at hl 0 rfl) ?_
        refine r_get C0 hK hP 4 rfl rfl i_TC 0 (by decide) wt_87 (fun _ h => h) rfl d_TC_cut_39 ?_
        refine lv_iload_n hx hb d_TC_cut_42 rfl (lv_at hl 1 rfl) ?_
        refine lv_iload_n hx hb d_TC_cut_43 rfl (lv_at hl 2 rfl) ?_
        refine lv_bipush (v := (nI 10)) hx hb d_TC_cut_44 (by decide) ?_
        refine lv_iconst (v := (nI 0)) hx hb d_TC_cut_46 (by decide) ?_
        refine call_i (rm := { frames := 1, cells := 0, slots := 0, locals := 21 }) hS hP hD hA (spl_mk (wc := [(an, .inr (1, [.ref cd, .ref cr, .ref cn])), (cd, .inl (cI, 6, .inl (nA dm))), (cr, .inl (cI, 36, .inl rs)), (cn, .inl (cI, 36, .inl rn))]) (wr := [(h, .inr (0, [.ref an, .ref am, .ref ak, .ref ap, .ref ac, .int (nI nm), .int (nI cs), .int (nI mk), .int (nI lr)]))]) [0, 1, 2, 3] [4] rfl rfl (by decide)) (run_v (n := 4) (As := [.int (nI j), .int (nI w), .int (nI 10), .int (nI 0)]) (rest := []) (q0 := 0) (ci := 1) C0 (hK.sub [] rfl) (c_Ch_keepOnly l D cI H.size an cd cr cn dm rs rn j w (nI 10) (nI 0) (by omega) hjw hdm) rfl rfl wt_394 wt_2 wt_391 wt_392 wt_393 (by decide +kernel) ⟨Nat.le_of_ble_eq_true rfl, Nat.le_of_ble_eq_true rfl⟩ rfl hl.1 rfl (Nat.le_of_ble_eq_true rfl) d_TC_cut_47 ⟨Nat.le_of_ble_eq_true rfl, Nat.le_of_ble_eq_true rfl⟩) (fun r_47 u_47 H locs hw_47 hP hD hS => ?_)
        have hP : va_P D cls [(h, .inr (0, [.ref an, .ref am, .ref ak, .ref ap, .ref ac, .int (nI nm), .int (nI cs), .int (nI mk), .int (nI lr)])), (an, .inr (1, [.ref cd, .ref cr, .ref cn])), (cd, .inl (cI, 6, .inl (nA u_47.1))), (cr, .inl (cI, 36, .inl u_47.2.1)), (cn, .inl (cI, 36, .inl u_47.2.2))] H := hP
        have hD : va_D A [(h, .inr (0, [.ref an, .ref am, .ref ak, .ref ap, .ref ac, .int (nI nm), .int (nI cs), .int (nI mk), .int (nI lr)])), (an, .inr (1, [.ref cd, .ref cr, .ref cn])), (cd, .inl (cI, 6, .inl (nA u_47.1))), (cr, .inl (cI, 36, .inl u_47.2.1)), (cn, .inl (cI, 36, .inl u_47.2.2))] := hD
        obtain ⟨hr47, hu47⟩ := hw_47
        subst hr47
        exact ret_i C0 hr hlk hAe hS u_47 (by rw [hoc, hu47]; show _ = (if _ then _ else _); rw [if_neg c_32, pc_sm, dif_dif _ hd64 _ hjw, Nat.mul_comm j 6]) hP hD rfl (Nat.le_of_ble_eq_true rfl) (Nat.le_of_ble_eq_true rfl) d_TC_cut_50
      · refine lv_bipush (v := (-4)) hx hb d_TC_cut_35 (by decide) ?_
        exact ret_i C0 hr hlk hAe hS (dm, rs, rn) (by rw [hoc]; show _ = (if _ then _ else _); rw [if_pos c_32]) (hP.sub [4, 0, 1, 2, 3] rfl) (hD.sub [4, 0, 1, 2, 3] (by decide) rfl) rfl (Nat.le_of_ble_eq_true rfl) (Nat.le_of_ble_eq_true rfl) d_TC_cut_37
    · have hiw := ik_f (by decide) c_15
      have hoc : oCut nm x y = none := by unfold oCut; rw [hij]; show (ixN y 64).map _ = _; rw [hiw]; rfl
      refine lv_bipush (v := (-2)) hx hb d_TC_cut_18 (by decide) ?_
      exact ret_i C0 hr hlk hAe hS (dm, rs, rn) (by rw [hoc]; rfl) (hP.sub [4, 0, 1, 2, 3] rfl) (hD.sub [4, 0, 1, 2, 3] (by decide) rfl) rfl (Nat.le_of_ble_eq_true rfl) (Nat.le_of_ble_eq_true rfl) d_TC_cut_20
