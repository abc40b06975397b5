theorem up_all {f : Nat → Nat} {i v : Nat} {P : Nat → Nat → Prop} (h : ∀ j, j < i → P j (f j)) (hv : P i v) : ∀ j, j < i + 1 → P j (va_up f i v j) := fun j hj => by
  unfold va_up
  split
  · next e => subst e; exact hv
  · next e => exact h j (by omega)
theorem up_eq {f h : Nat → Nat} {i v : Nat} (hf : ∀ j, j < i → f j = h j) (hv : v = h i) : ∀ j, j < i + 1 → va_up f i v j = h j := fun j hj => by
  unfold va_up
  split
  · next e => subst e; exact hv
  · next e => exact hf j (by omega)
set_option maxHeartbeats 4000000 in
set_option maxRecDepth 100000 in
theorem c_Pl_costAt (l : Launch) (D : va_G) (cI : ClassId) (sz : Nat) (k : Nat) (q : Nat)  : MetI l y_Pl_costAt b_Pl_costAt 2 (some .int) { frames := 0, cells := 0, slots := 0, locals := 0 } D cI [] sz [] [.int (nI k), .int (nI q)] (fun (r : Int32) (u : Unit) => r = (nI (k * 8 + q))) (fun u : Unit => []) := by
  refine enter (by decide) (Nat.le_of_ble_eq_true rfl) ?_
  intro p e s m below meth c A ls C0 hr hlk hnm hK hsz hA hAe hP hD hS hl
  have hx := C0.1
  have hb := C0.2.1
  have hl : lv_has ls 2 [(0, .int (nI k)), (1, .int (nI q))] := hl
  refine lv_iload_n hx hb d_Pl_costAt_0 rfl (lv_at hl 0 rfl) ?_
  refine lv_bipush (v := (nI 8)) hx hb d_Pl_costAt_1 (by decide) ?_
  refine lv_imul hx hb d_Pl_costAt_3 ?_
  refine t_eq (y := (nI (k * 8))) (pk_mul _ _) ?_
  refine lv_iload_n hx hb d_Pl_costAt_4 rfl (lv_at hl 1 rfl) ?_
  refine lv_iadd hx hb d_Pl_costAt_5 ?_
  refine t_eq (y := (nI ((k * 8) + q))) (nI_add _ _) ?_
  exact ret_i C0 hr hlk hAe hS () rfl hP hD rfl (Nat.le_of_ble_eq_true rfl) (Nat.le_of_ble_eq_true rfl) d_Pl_costAt_6
set_option maxHeartbeats 4000000 in
set_option maxRecDepth 100000 in
theorem c_Pl_isRemembered (l : Launch) (D : va_G) (cI : ClassId) (sz : Nat) (k : Nat) (q : Nat) (hk : k < 2147483648) (hq : q < 2147483648) : MetI l y_Pl_isRemembered b_Pl_isRemembered 2 (some .boolean) { frames := 1, cells := 0, slots := 0, locals := 22 } D cI [] sz [] [.int (nI k), .int (nI q)] (fun (r : Int32) (u : Unit) => r = (bI (decide (k ≤ 5) && decide (q ≤ 63)))) (fun u : Unit => []) := by
  refine enter (by decide) (Nat.le_of_ble_eq_true rfl) ?_
  intro p e s m below meth c A ls C0 hr hlk hnm hK hsz hA hAe hP hD hS hl
  have hx := C0.1
  have hb := C0.2.1
  have hl : lv_has ls 2 [(0, .int (nI k)), (1, .int (nI q))] := hl
  refine lv_iload_n hx hb d_Pl_isRemembered_0 rfl (lv_at hl 0 rfl) ?_
  refine lv_iconst (v := (nI 0)) hx hb d_Pl_isRemembered_1 (by decide) ?_
  refine lv_iconst (v := (nI 5)) hx hb d_Pl_isRemembered_2 (by decide) ?_
  refine call_i (rm := { frames := 0, cells := 0, slots := 0, locals := 0 }) hS hP hD hA (spl_mk (wc := []) (wr := []) [] [] rfl rfl (by decide)) (run_sN (n := 3) (As := [.int (nI k), .int (nI 0), .int (nI 5)]) (rest := []) C0 (hK.sub [] rfl) (c_TC_isIn l D cI s.heap.size (nI k) (nI 0) (nI 5)) wt_125 wt_1 wn_458 wt_124 (by decide +kernel) ⟨Nat.le_of_ble_eq_true rfl, Nat.le_of_ble_eq_true rfl⟩ rfl hl.1 rfl (Nat.le_of_ble_eq_true rfl) d_Pl_isRemembered_3 ⟨Nat.le_of_ble_eq_true rfl, Nat.le_of_ble_eq_true rfl⟩) (fun r_3 _u3 H locs hw_3 hP hD hS => ?_)
  have hP : va_P D cls [] H := hP
  have hD : va_D A [] := hD
  subst hw_3
  refine t_eq (y := (bI (decide (k ≤ 5)))) (by rw [nat_in hk (by decide)]) ?_
  refine y_eq (tgt := 23) hx hb d_Pl_isRemembered_6 (by decide) (fun c_6 => ?_) (fun c_6 => ?_)
  · refine lv_iconst (v := (nI 0)) hx hb d_Pl_isRemembered_23 (by decide) ?_
    exact ret_i C0 hr hlk hAe hS () (by first | (rw [c_16, c_6]; rfl) | (rw [c_16, Bool.and_false]; rfl) | (rw [c_6]; rfl)) hP hD rfl (Nat.le_of_ble_eq_true rfl) (Nat.le_of_ble_eq_true rfl) d_Pl_isRemembered_24
  · refine lv_iload_n hx hb d_Pl_isRemembered_9 rfl (lv_at hl 1 rfl) ?_
    refine lv_iconst (v := (nI 0)) hx hb d_Pl_isRemembered_10 (by decide) ?_
    refine lv_bipush (v := (nI 63)) hx hb d_Pl_isRemembered_11 (by decide) ?_
    refine call_i (rm := { frames := 0, cells := 0, slots := 0, locals := 0 }) hS hP hD hA (spl_mk (wc := []) (wr := []) [] [] rfl rfl (by decide)) (run_sN (n := 3) (As := [.int (nI q), .int (nI 0), .int (nI 63)]) (rest := []) C0 (hK.sub [] rfl) (c_TC_isIn l D cI H.size (nI q) (nI 0) (nI 63)) wt_125 wt_1 wn_458 wt_124 (by decide +kernel) ⟨Nat.le_of_ble_eq_true rfl, Nat.le_of_ble_eq_true rfl⟩ rfl hl.1 rfl (Nat.le_of_ble_eq_true rfl) d_Pl_isRemembered_13 ⟨Nat.le_of_ble_eq_true rfl, Nat.le_of_ble_eq_true rfl⟩) (fun r_13 _u13 H locs hw_13 hP hD hS => ?_)
    have hP : va_P D cls [] H := hP
    have hD : va_D A [] := hD
    subst hw_13
    refine t_eq (y := (bI (decide (q ≤ 63)))) (by rw [nat_in hq (by decide)]) ?_
    refine y_eq (tgt := 23) hx hb d_Pl_isRemembered_16 (by decide) (fun c_16 => ?_) (fun c_16 => ?_)
    · refine lv_iconst (v := (nI 0)) hx hb d_Pl_isRemembered_23 (by decide) ?_
      exact ret_i C0 hr hlk hAe hS () (by first | (rw [c_16, c_6]; rfl) | (rw [c_16, Bool.and_false]; rfl) | (rw [c_6]; rfl)) hP hD rfl (Nat.le_of_ble_eq_true rfl) (Nat.le_of_ble_eq_true rfl) d_Pl_isRemembered_24
    · refine lv_iconst (v := (nI 1)) hx hb d_Pl_isRemembered_19 (by decide) ?_
      refine lv_goto (tgt := 24) hx hb d_Pl_isRemembered_20 (by decide) ?_
      exact ret_i C0 hr hlk hAe hS () (by first | (rw [c_16, c_6]; rfl) | (rw [c_16, Bool.and_false]; rfl) | (rw [c_6]; rfl)) hP hD rfl (Nat.le_of_ble_eq_true rfl) (Nat.le_of_ble_eq_true rfl) d_Pl_isRemembered_24
set_option maxHeartbeats 4000000 in
set_option maxRecDepth 100000 in
theorem c_Pl_keptAt (l : Launch) (D : va_G) (cI : ClassId) (sz : Nat) (hp : Nat) (po : Nat) (pk : Nat) (pa : Nat) (pb : Nat) (pw : Nat) (ps : Nat) (tm : Nat) (kp : Nat → Nat) (k : Nat) (hk : k < 6) : MetI l y_Pl_keptAt b_Pl_keptAt 2 (some .int) { frames := 0, cells := 0, slots := 0, locals := 0 } D cI [] sz [(hp, .inr (2, [.ref po, .ref pk, .ref pa, .ref pb, .ref pw, .ref ps, .int (nI tm)])), (pk, .inl (cI, 6, .inl (nA kp)))] [.ref hp, .int (nI k)] (fun (r : Int32) (u : Unit) => r = (nI (kp k))) (fun u : Unit => [(hp, .inr (2, [.ref po, .ref pk, .ref pa, .ref pb, .ref pw, .ref ps, .int (nI tm)])), (pk, .inl (cI, 6, .inl (nA kp)))]) := by
  refine enter (by decide) (Nat.le_of_ble_eq_true rfl) ?_
  intro p e s m below meth c A ls C0 hr hlk hnm hK hsz hA hAe hP hD hS hl
  have hx := C0.1
  have hb := C0.2.1
  have hl : lv_has ls 2 [(0, .ref hp), (1, .int (nI k))] := hl
  refine lv_iload_n hx hb d_Pl_keptAt_0 rfl (lv_at hl 1 rfl) ?_
  refine z_lt (tgt := 19) hx hb (by omega) d_Pl_keptAt_1 (by decide) ?_
  refine lv_iload_n hx hb d_Pl_keptAt_4 rfl (lv_at hl 1 rfl) ?_
  refine lv_bipush (v := (nI 6)) hx hb d_Pl_keptAt_5 (by decide) ?_
  refine b_ge (tgt := 19) hx hb (by omega) (by decide) d_Pl_keptAt_7 (by decide) (fun c_7 => ?_) (fun c_7 => ?_)
  · exact absurd c_7 (by omega)
  · refine lv_aload_n hx hb d_Pl_keptAt_10 rfl (lv_at hl 0 rfl) ?_
    refine r_get C0 hK hP 0 rfl rfl i_Pl 1 (by decide) wt_59 (fun _ h => h) rfl d_Pl_keptAt_11 ?_
    refine lv_iload_n hx hb d_Pl_keptAt_14 rfl (lv_at hl 1 rfl) ?_
    refine r_ald C0 hK hP 1 rfl (by omega) (by decide) d_Pl_keptAt_15 ?_
    refine t_eq (y := (nI (kp k))) rfl ?_
    refine lv_goto (tgt := 20) hx hb d_Pl_keptAt_16 (by decide) ?_
    exact ret_i C0 hr hlk hAe hS () rfl hP hD rfl (Nat.le_of_ble_eq_true rfl) (Nat.le_of_ble_eq_true rfl) d_Pl_keptAt_20
set_option maxHeartbeats 4000000 in
set_option maxRecDepth 100000 in
theorem c_Pl_forget (l : Launch) (D : va_G) (cI : ClassId) (sz : Nat) (hp : Nat) (po : Nat) (pk : Nat) (pa : Nat) (pb : Nat) (pw : Nat) (ps : Nat) (tm : Nat)  : MetV l y_Pl_forget b_Pl_forget 1 { frames := 0, cells := 0, slots := 0, locals := 0 } D cI [] sz [(hp, .inr (2, [.ref po, .ref pk, .ref pa, .ref pb, .ref pw, .ref ps, .int (nI tm)]))] [.ref hp] (fun (u : Unit) => True) (fun u : Unit => [(hp, .inr (2, [.ref po, .ref pk, .ref pa, .ref pb, .ref pw, .ref ps, .int (nI (tm + 1))]))]) := by
  refine enter (by decide) (Nat.le_of_ble_eq_true rfl) ?_
  intro p e s m below meth c A ls C0 hr hlk hnm hK hsz hA hAe hP hD hS hl
  have hx := C0.1
  have hb := C0.2.1
  have hl : lv_has ls 1 [(0, .ref hp)] := hl
  refine lv_aload_n hx hb d_Pl_forget_0 rfl (lv_at hl 0 rfl) ?_
  refine lv_dup hx hb d_Pl_forget_1 rfl ?_
  refine r_get C0 hK hP 0 rfl rfl i_Pl 6 (by decide) wt_71 (fun _ h => h) rfl d_Pl_forget_2 ?_
  refine lv_iconst (v := (nI 1)) hx hb d_Pl_forget_5 (by decide) ?_
  refine lv_iadd hx hb d_Pl_forget_6 ?_
  refine t_eq (y := (nI (tm + 1))) (nI_add _ _) ?_
  refine r_put C0 hK hP hD hS 0 rfl rfl i_Pl t_Pl k_Pl n_Pl 6 (by decide) wt_71 (fun _ h => h) rfl rfl rfl (Nat.le_of_ble_eq_true rfl) d_Pl_forget_7 (fun H locs hP hD hS => ?_)
  have hP : va_P D cls [(hp, .inr (2, [.ref po, .ref pk, .ref pa, .ref pb, .ref pw, .ref ps, .int (nI (tm + 1))]))] H := hP
  have hD : va_D A [(hp, .inr (2, [.ref po, .ref pk, .ref pa, .ref pb, .ref pw, .ref ps, .int (nI (tm + 1))]))] := hD
  exact ret_v C0 hr hlk hAe hS () trivial hP hD (Nat.le_of_ble_eq_true rfl) (Nat.le_of_ble_eq_true rfl) d_Pl_forget_10
set_option maxHeartbeats 4000000 in
set_option maxRecDepth 100000 in
theorem c_Pl_recall (l : Launch) (D : va_G) (cI : ClassId) (sz : Nat) (hp : Nat) (po : Nat) (pk : Nat) (pa : Nat) (pb : Nat) (pw : Nat) (ps : Nat) (tm : Nat) (wd : Nat → Nat) (ks : Nat → Nat) (k : Nat) (q : Nat) (hk : k < 6) (hq : q < 2147483648) (htm : tm < 2147483648) (hks : ∀ i, ks i < 2147483648) : MetI l y_Pl_recall b_Pl_recall 3 (some .int) { frames := 2, cells := 0, slots := 0, locals := 43 } D cI [] sz [(hp, .inr (2, [.ref po, .ref pk, .ref pa, .ref pb, .ref pw, .ref ps, .int (nI tm)])), (pw, .inl (cI, 384, .inl (nA wd))), (ps, .inl (cI, 384, .inl (nA ks)))] [.ref hp, .int (nI k), .int (nI q)] (fun (r : Int32) (u : Unit) => ((q < 64 ∧ ks (k * 64 + q) = tm) ∧ r = nI (wd (k * 64 + q))) ∨ (¬ (q < 64 ∧ ks (k * 64 + q) = tm) ∧ r = -1)) (fun u : Unit => [(hp, .inr (2, [.ref po, .ref pk, .ref pa, .ref pb, .ref pw, .ref ps, .int (nI tm)])), (pw, .inl (cI, 384, .inl (nA wd))), (ps, .inl (cI, 384, .inl (nA ks)))]) := by
  refine enter (by decide) (Nat.le_of_ble_eq_true rfl) ?_
  intro p e s m below meth c A ls C0 hr hlk hnm hK hsz hA hAe hP hD hS hl
  have hx := C0.1
  have hb := C0.2.1
  have hl : lv_has ls 3 [(0, .ref hp), (1, .int (nI k)), (2, .int (nI q))] := hl
  refine lv_iload_n hx hb d_Pl_recall_0 rfl (lv_at hl 1 rfl) ?_
  refine lv_iload_n hx hb d_Pl_recall_1 rfl (lv_at hl 2 rfl) ?_
  refine call_i (rm := { frames := 1, cells := 0, slots := 0, locals := 22 }) hS hP hD hA (spl_mk (wc := []) (wr := [(hp, .inr (2, [.ref po, .ref pk, .ref pa, .ref pb, .ref pw, .ref ps, .int (nI tm)])), (pw, .inl (cI, 384, .inl (nA wd))), (ps, .inl (cI, 384, .inl (nA ks)))]) [] [0, 1, 2] rfl rfl (by decide)) (run_s (n := 2) (As := [.int (nI k), .int (nI q)]) (rest := []) C0 (hK.sub [] rfl) (c_Pl_isRemembered l D cI s.heap.size k q (by omega) (by omega)) wt_457 wt_3 wt_455 wt_456 (by decide +kernel) ⟨Nat.le_of_ble_eq_true rfl, Nat.le_of_ble_eq_true rfl⟩ rfl hl.1 rfl (Nat.le_of_ble_eq_true rfl) d_Pl_recall_2 ⟨Nat.le_of_ble_eq_true rfl, Nat.le_of_ble_eq_true rfl⟩) (fun r_2 _u2 H locs hw_2 hP hD hS => ?_)
  have hP : va_P D cls [(hp, .inr (2, [.ref po, .ref pk, .ref pa, .ref pb, .ref pw, .ref ps, .int (nI tm)])), (pw, .inl (cI, 384, .inl (nA wd))), (ps, .inl (cI, 384, .inl (nA ks)))] H := hP
  have hD : va_D A [(hp, .inr (2, [.ref po, .ref pk, .ref pa, .ref pb, .ref pw, .ref ps, .int (nI tm)])), (pw, .inl (cI, 384, .inl (nA wd))), (ps, .inl (cI, 384, .inl (nA ks)))] := hD
  subst hw_2
  refine y_eq (tgt := 40) hx hb d_Pl_recall_5 (by decide) (fun c_5 => ?_) (fun c_5 => ?_)
  · have c_5 : ¬ q < 64 := by simp at c_5; omega
    refine lv_iconst (v := (-1)) hx hb d_Pl_recall_40 (by decide) ?_
    exact ret_i C0 hr hlk hAe hS () (by first | exact Or.inl ⟨⟨c_5, c_23⟩, rfl⟩ | exact Or.inr ⟨fun h => c_23 h.2, rfl⟩ | exact Or.inr ⟨fun h => c_5 h.1, rfl⟩) hP hD rfl (Nat.le_of_ble_eq_true rfl) (Nat.le_of_ble_eq_true rfl) d_Pl_recall_41
  · have c_5 : q < 64 := by simp at c_5; omega
    refine lv_aload_n hx hb d_Pl_recall_8 rfl (lv_at hl 0 rfl) ?_
    refine r_get C0 hK hP 0 rfl rfl i_Pl 5 (by decide) wt_70 (fun _ h => h) rfl d_Pl_recall_9 ?_
    refine lv_iload_n hx hb d_Pl_recall_12 rfl (lv_at hl 1 rfl) ?_
    refine lv_bipush (v := (nI 64)) hx hb d_Pl_recall_13 (by decide) ?_
    refine lv_imul hx hb d_Pl_recall_15 ?_
    refine t_eq (y := (nI (k * 64))) (pk_mul _ _) ?_
    refine lv_iload_n hx hb d_Pl_recall_16 rfl (lv_at hl 2 rfl) ?_
    refine lv_iadd hx hb d_Pl_recall_17 ?_
    refine t_eq (y := (nI ((k * 64) + q))) (nI_add _ _) ?_
    refine r_ald C0 hK hP 2 rfl (by omega) (by decide) d_Pl_recall_18 ?_
    refine t_eq (y := (nI (ks ((k * 64) + q)))) rfl ?_
    refine lv_aload_n hx hb d_Pl_recall_19 rfl (lv_at hl 0 rfl) ?_
    refine r_get C0 hK hP 0 rfl rfl i_Pl 6 (by decide) wt_71 (fun _ h => h) rfl d_Pl_recall_20 ?_
    refine b_ne (tgt := 40) hx hb (hks _) (by omega) d_Pl_recall_23 (by decide) (fun c_23 => ?_) (fun c_23 => ?_)
    · refine lv_iconst (v := (-1)) hx hb d_Pl_recall_40 (by decide) ?_
      exact ret_i C0 hr hlk hAe hS () (by first | exact Or.inl ⟨⟨c_5, c_23⟩, rfl⟩ | exact Or.inr ⟨fun h => c_23 h.2, rfl⟩ | exact Or.inr ⟨fun h => c_5 h.1, rfl⟩) hP hD rfl (Nat.le_of_ble_eq_true rfl) (Nat.le_of_ble_eq_true rfl) d_Pl_recall_41
    · refine lv_aload_n hx hb d_Pl_recall_26 rfl (lv_at hl 0 rfl) ?_
      refine r_get C0 hK hP 0 rfl rfl i_Pl 4 (by decide) wt_69 (fun _ h => h) rfl d_Pl_recall_27 ?_
      refine lv_iload_n hx hb d_Pl_recall_30 rfl (lv_at hl 1 rfl) ?_
      refine lv_bipush (v := (nI 64)) hx hb d_Pl_recall_31 (by decide) ?_
      refine lv_imul hx hb d_Pl_recall_33 ?_
      refine t_eq (y := (nI (k * 64))) (pk_mul _ _) ?_
      refine lv_iload_n hx hb d_Pl_recall_34 rfl (lv_at hl 2 rfl) ?_
      refine lv_iadd hx hb d_Pl_recall_35 ?_
      refine t_eq (y := (nI ((k * 64) + q))) (nI_add _ _) ?_
      refine r_ald C0 hK hP 1 rfl (by omega) (by decide) d_Pl_recall_36 ?_
      refine t_eq (y := (nI (wd ((k * 64) + q)))) rfl ?_
      refine lv_goto (tgt := 41) hx hb d_Pl_recall_37 (by decide) ?_
      exact ret_i C0 hr hlk hAe hS () (by first | exact Or.inl ⟨⟨c_5, c_23⟩, rfl⟩ | exact Or.inr ⟨fun h => c_23 h.2, rfl⟩ | exact Or.inr ⟨fun h => c_5 h.1, rfl⟩) hP hD rfl (Nat.le_of_ble_eq_true rfl) (Nat.le_of_ble_eq_true rfl) d_Pl_recall_41
set_option maxHeartbeats 4000000 in
set_option maxRecDepth 100000 in
theorem c_Pl_remember (l : Launch) (D : va_G) (cI : ClassId) (sz : Nat) (hp : Nat) (po : Nat) (pk : Nat) (pa : Nat) (pb : Nat) (pw : Nat) (ps : Nat) (tm : Nat) (wd : Nat → Nat) (ks : Nat → Nat) (k : Nat) (q : Nat) (v : Nat) (hk : k < 6) (hq : q < 2147483648) : MetV l y_Pl_remember b_Pl_remember 4 { frames := 2, cells := 0, slots := 0, locals := 43 } D cI [] sz [(hp, .inr (2, [.ref po, .ref pk, .ref pa, .ref pb, .ref pw, .ref ps, .int (nI tm)])), (pw, .inl (cI, 384, .inl (nA wd))), (ps, .inl (cI, 384, .inl (nA ks)))] [.ref hp, .int (nI k), .int (nI q), .int (nI v)] (fun (u : (Nat → Nat) × (Nat → Nat)) => u = if q < 64 then (va_up wd (k * 64 + q) v, va_up ks (k * 64 + q) tm) else (wd, ks)) (fun u : (Nat → Nat) × (Nat → Nat) => [(hp, .inr (2, [.ref po, .ref pk, .ref pa, .ref pb, .ref pw, .ref ps, .int (nI tm)])), (pw, .inl (cI, 384, .inl (nA u.1))), (ps, .inl (cI, 384, .inl (nA u.2)))]) := by
  refine enter (by decide) (Nat.le_of_ble_eq_true rfl) ?_
  intro p e s m below meth c A ls C0 hr hlk hnm hK hsz hA hAe hP hD hS hl
  have hx := C0.1
  have hb := C0.2.1
  have hl : lv_has ls 4 [(0, .ref hp), (1, .int (nI k)), (2, .int (nI q)), (3, .int (nI v))] := hl
  refine lv_iload_n hx hb d_Pl_remember_0 rfl (lv_at hl 1 rfl) ?_
  refine lv_iload_n hx hb d_Pl_remember_1 rfl (lv_at hl 2 rfl) ?_
  refine call_i (rm := { frames := 1, cells := 0, slots := 0, locals := 22 }) hS hP hD hA (spl_mk (wc := []) (wr := [(hp, .inr (2, [.ref po, .ref pk, .ref pa, .ref pb, .ref pw, .ref ps, .int (nI tm)])), (pw, .inl (cI, 384, .inl (nA wd))), (ps, .inl (cI, 384, .inl (nA ks)))]) [] [0, 1, 2] rfl rfl (by decide)) (run_s (n := 2) (As := [.int (nI k), .int (nI q)]) (rest := []) C0 (hK.sub [] rfl) (c_Pl_isRemembered l D cI s.heap.size k q (by omega) (by omega)) wt_457 wt_3 wt_455 wt_456 (by decide +kernel) ⟨Nat.le_of_ble_eq_true rfl, Nat.le_of_ble_eq_true rfl⟩ rfl hl.1 rfl (Nat.le_of_ble_eq_true rfl) d_Pl_remember_2 ⟨Nat.le_of_ble_eq_true rfl, Nat.le_of_ble_eq_true rfl⟩) (fun r_2 _u2 H locs hw_2 hP hD hS => ?_)
  have hP : va_P D cls [(hp, .inr (2, [.ref po, .ref pk, .ref pa, .ref pb, .ref pw, .ref ps, .int (nI tm)])), (pw, .inl (cI, 384, .inl (nA wd))), (ps, .inl (cI, 384, .inl (nA ks)))] H := hP
  have hD : va_D A [(hp, .inr (2, [.ref po, .ref pk, .ref pa, .ref pb, .ref pw, .ref ps, .int (nI tm)])), (pw, .inl (cI, 384, .inl (nA wd))), (ps, .inl (cI, 384, .inl (nA ks)))] := hD
  subst hw_2
  refine y_eq (tgt := 35) hx hb d_Pl_remember_5 (by decide) (fun c_5 => ?_) (fun c_5 => ?_)
  · have c_5 : ¬ q < 64 := by simp at c_5; omega
    exact ret_v C0 hr hlk hAe hS (wd, ks) (by first | (rw [if_pos c_5]) | (rw [if_neg c_5])) hP hD (Nat.le_of_ble_eq_true rfl) (Nat.le_of_ble_eq_true rfl) d_Pl_remember_35
  · have c_5 : q < 64 := by simp at c_5; omega
    refine lv_aload_n hx hb d_Pl_remember_8 rfl (lv_at hl 0 rfl) ?_
    refine r_get C0 hK hP 0 rfl rfl i_Pl 4 (by decide) wt_69 (fun _ h => h) rfl d_Pl_remember_9 ?_
    refine lv_iload_n hx hb d_Pl_remember_12 rfl (lv_at hl 1 rfl) ?_
    refine lv_bipush (v := (nI 64)) hx hb d_Pl_remember_13 (by decide) ?_
    refine lv_imul hx hb d_Pl_remember_15 ?_
    refine t_eq (y := (nI (k * 64))) (pk_mul _ _) ?_
    refine lv_iload_n hx hb d_Pl_remember_16 rfl (lv_at hl 2 rfl) ?_
    refine lv_iadd hx hb d_Pl_remember_17 ?_
    refine t_eq (y := (nI ((k * 64) + q))) (nI_add _ _) ?_
    refine lv_iload_n hx hb d_Pl_remember_18 rfl (lv_at hl 3 rfl) ?_
    refine r_astN C0 hK hP hD hS 1 rfl (by omega) (by decide) d_Pl_remember_19 (fun H locs hP hD hS => ?_)
    have hP : va_P D cls [(hp, .inr (2, [.ref po, .ref pk, .ref pa, .ref pb, .ref pw, .ref ps, .int (nI tm)])), (pw, .inl (cI, 384, .inl (nA (va_up wd ((k * 64) + q) v)))), (ps, .inl (cI, 384, .inl (nA ks)))] H := hP
    have hD : va_D A [(hp, .inr (2, [.ref po, .ref pk, .ref pa, .ref pb, .ref pw, .ref ps, .int (nI tm)])), (pw, .inl (cI, 384, .inl (nA (va_up wd ((k * 64) + q) v)))), (ps, .inl (cI, 384, .inl (nA ks)))] := hD
    refine lv_aload_n hx hb d_Pl_remember_20 rfl (lv_at hl 0 rfl) ?_
    refine r_get C0 hK hP 0 rfl rfl i_Pl 5 (by decide) wt_70 (fun _ h => h) rfl d_Pl_remember_21 ?_
    refine lv_iload_n hx hb d_Pl_remember_24 rfl (lv_at hl 1 rfl) ?_
    refine lv_bipush (v := (nI 64)) hx hb d_Pl_remember_25 (by decide) ?_
    refine lv_imul hx hb d_Pl_remember_27 ?_
    refine t_eq (y := (nI (k * 64))) (pk_mul _ _) ?_
    refine lv_iload_n hx hb d_Pl_remember_28 rfl (lv_at hl 2 rfl) ?_
    refine lv_iadd hx hb d_Pl_remember_29 ?_
    refine t_eq (y := (nI ((k * 64) + q))) (nI_add _ _) ?_
    refine lv_aload_n hx hb d_Pl_remember_30 rfl (lv_at hl 0 rfl) ?_
    refine r_get C0 hK hP 0 rfl rfl i_Pl 6 (by decide) wt_71 (fun _ h => h) rfl d_Pl_remember_31 ?_
    refine r_astN C0 hK hP hD hS 2 rfl (by omega) (by decide) d_Pl_remember_34 (fun H locs hP hD hS => ?_)
    have hP : va_P D cls [(hp, .inr (2, [.ref po, .ref pk, .ref pa, .ref pb, .ref pw, .ref ps, .int (nI tm)])), (pw, .inl (cI, 384, .inl (nA (va_up wd ((k * 64) + q) v)))), (ps, .inl (cI, 384, .inl (nA (va_up ks ((k * 64) + q) tm))))] H := hP
    have hD : va_D A [(hp, .inr (2, [.ref po, .ref pk, .ref pa, .ref pb, .ref pw, .ref ps, .int (nI tm)])), (pw, .inl (cI, 384, .inl (nA (va_up wd ((k * 64) + q) v)))), (ps, .inl (cI, 384, .inl (nA (va_up ks ((k * 64) + q) tm))))] := hD
    exact ret_v C0 hr hlk hAe hS (va_up wd ((k * 64) + q) v, va_up ks ((k * 64) + q) tm) (by first | (rw [if_pos c_5]) | (rw [if_neg c_5])) hP hD (Nat.le_of_ble_eq_true rfl) (Nat.le_of_ble_eq_true rfl) d_Pl_remember_35
set_option maxHeartbeats 4000000 in
set_option maxRecDepth 100000 in
theorem c_Pl_layWord (l : Launch) (D : va_G) (cI : ClassId) (sz : Nat) (hp : Nat) (po : Nat) (pk : Nat) (pa : Nat) (pb : Nat) (pw : Nat) (ps : Nat) (tm : Nat) (op : Nat → Nat) (kp : Nat → Nat) (mn : Nat) (w : Nat) (hmn : mn ≤ 6) (hw : w < 2147483648) : MetV l y_Pl_layWord b_Pl_layWord 4 { frames := 1, cells := 0, slots := 0, locals := 21 } D cI [] sz [(hp, .inr (2, [.ref po, .ref pk, .ref pa, .ref pb, .ref pw, .ref ps, .int (nI tm)])), (po, .inl (cI, 6, .inl (nA op))), (pk, .inl (cI, 6, .inl (nA kp)))] [.ref hp, .int (nI mn), .int (nI w)] (fun (u : (Nat → Nat) × (Nat → Nat)) => (∀ j, j < mn → u.1 j = 2 ^ (dgt w j)) ∧ (∀ j, j < mn → u.2 j = 0) ∧ ∀ j, mn ≤ j → u.1 j = op j) (fun u : (Nat → Nat) × (Nat → Nat) => [(hp, .inr (2, [.ref po, .ref pk, .ref pa, .ref pb, .ref pw, .ref ps, .int (nI tm)])), (po, .inl (cI, 6, .inl (nA u.1))), (pk, .inl (cI, 6, .inl (nA u.2)))]) := by
  refine enter (by decide) (Nat.le_of_ble_eq_true rfl) ?_
  intro p e s m below meth c A ls C0 hr hlk hnm hK hsz hA hAe hP hD hS hl
  have hx := C0.1
  have hb := C0.2.1
  have hl : lv_has ls 4 [(0, .ref hp), (1, .int (nI mn)), (2, .int (nI w))] := hl
  refine lv_iconst (v := (nI 0)) hx hb d_Pl_layWord_0 (by decide) ?_
  refine lv_istore_n (lv' := [(3, .int (nI 0)), (0, .ref hp), (1, .int (nI mn)), (2, .int (nI w))]) hx hb d_Pl_layWord_1 rfl hl (by decide) rfl (fun ls hl => ?_)
  have L2 : ∀ (fuel2 : Nat) (i : Nat) (f : Nat → Nat) (g : Nat → Nat), (i ≤ mn) → (mn < i + fuel2) → (∀ j, j < i → f j = 2 ^ (dgt w j)) → (∀ j, j < i → g j = 0) → (∀ j, i ≤ j → f j = op j) → ∀ (H : Heap) (locs : List Loc) (ls : Array Slot), va_P D cls [(hp, .inr (2, [.ref po, .ref pk, .ref pa, .ref pb, .ref pw, .ref ps, .int (nI tm)])), (po, .inl (cI, 6, .inl (nA f))), (pk, .inl (cI, 6, .inl (nA g)))] H → va_D A [(hp, .inr (2, [.ref po, .ref pk, .ref pa, .ref pb, .ref pw, .ref ps, .int (nI tm)])), (po, .inl (cI, 6, .inl (nA f))), (pk, .inl (cI, 6, .inl (nA g)))] → va_S A s.heap H locs → lv_has ls 4 [(0, .ref hp), (1, .int (nI mn)), (2, .int (nI w)), (3, .int (nI i))] → W p l e { frames := 1, cells := 0, slots := 0, locals := 21 } s m ([.ref hp, .int (nI mn), .int (nI w)] : List Value).toArray below meth c H locs 0 0 (MQ below (pstV D [(hp, .inr (2, [.ref po, .ref pk, .ref pa, .ref pb, .ref pw, .ref ps, .int (nI tm)])), (po, .inl (cI, 6, .inl (nA op))), (pk, .inl (cI, 6, .inl (nA kp)))] sz (fun (u : (Nat → Nat) × (Nat → Nat)) => (∀ j, j < mn → u.1 j = 2 ^ (dgt w j)) ∧ (∀ j, j < mn → u.2 j = 0) ∧ ∀ j, mn ≤ j → u.1 j = op j) (fun u : (Nat → Nat) × (Nat → Nat) => [(hp, .inr (2, [.ref po, .ref pk, .ref pa, .ref pb, .ref pw, .ref ps, .int (nI tm)])), (po, .inl (cI, 6, .inl (nA u.1))), (pk, .inl (cI, 6, .inl (nA u.2)))])) ([.ref hp, .int (nI mn), .int (nI w)] : List Value).toArray s 0 0 A) (F0 m 2 ls []) := by
    intro fuel2
    induction fuel2 with
    | zero => intros; omega
    | succ fuel2 ih2 =>
      intro i f g hi hfu hf hg hfo H locs ls hP hD hS hl
      refine lv_iload_n hx hb d_Pl_layWord_2 rfl (lv_at hl 3 rfl) ?_
      refine lv_iload_n hx hb d_Pl_layWord_3 rfl (lv_at hl 1 rfl) ?_
      refine b_ge (tgt := 39) hx hb (by omega) (by omega) d_Pl_layWord_4 (by decide) (fun c_4 => ?_) (fun c_4 => ?_)
      · exact ret_v C0 hr hlk hAe hS (f, g) (by obtain rfl : i = mn := (by omega); exact ⟨hf, hg, hfo⟩) hP hD (Nat.le_of_ble_eq_true rfl) (Nat.le_of_ble_eq_true rfl) d_Pl_layWord_39
      · refine lv_iload_n hx hb d_Pl_layWord_7 rfl (lv_at hl 3 rfl) ?_
        refine lv_bipush (v := (nI 6)) hx hb d_Pl_layWord_8 (by decide) ?_
        refine b_ge (tgt := 39) hx hb (by omega) (by decide) d_Pl_layWord_10 (by decide) (fun c_10 => ?_) (fun c_10 => ?_)
        · exact ret_v C0 hr hlk hAe hS (f, g) (by obtain rfl : i = mn := (by omega); exact ⟨hf, hg, hfo⟩) hP hD (Nat.le_of_ble_eq_true rfl) (Nat.le_of_ble_eq_true rfl) d_Pl_layWord_39
        · refine lv_aload_n hx hb d_Pl_layWord_13 rfl (lv_at hl 0 rfl) ?_
          refine r_get C0 hK hP 0 rfl rfl i_Pl 0 (by decide) wt_54 (fun _ h => h) rfl d_Pl_layWord_14 ?_
          refine lv_iload_n hx hb d_Pl_layWord_17 rfl (lv_at hl 3 rfl) ?_
          refine lv_iconst (v := (nI 1)) hx hb d_Pl_layWord_18 (by decide) ?_
          refine lv_iload_n hx hb d_Pl_layWord_19 rfl (lv_at hl 2 rfl) ?_
          refine lv_iload_n hx hb d_Pl_layWord_20 rfl (lv_at hl 3 rfl) ?_
          refine call_i (rm := { frames := 0, cells := 0, slots := 0, locals := 0 }) hS hP hD hA (spl_mk (wc := []) (wr := [(hp, .inr (2, [.ref po, .ref pk, .ref pa, .ref pb, .ref pw, .ref ps, .int (nI tm)])), (po, .inl (cI, 6, .inl (nA f))), (pk, .inl (cI, 6, .inl (nA g)))]) [] [0, 1, 2] rfl rfl (by decide)) (run_sN (n := 2) (As := [.int (nI w), .int (nI i)]) (rest := [.int (nI 1), .int (nI i), .ref po]) C0 (hK.sub [] rfl) (c_TC_digit l D cI H.size w i (by omega) (by omega)) wt_140 wt_1 wn_567 wt_139 (by decide +kernel) ⟨Nat.le_of_ble_eq_true rfl, Nat.le_of_ble_eq_true rfl⟩ rfl hl.1 rfl (Nat.le_of_ble_eq_true rfl) d_Pl_layWord_21 ⟨Nat.le_of_ble_eq_true rfl, Nat.le_of_ble_eq_true rfl⟩) (fun r_21 _u21 H locs hw_21 hP hD hS => ?_)
          have hP : va_P D cls [(hp, .inr (2, [.ref po, .ref pk, .ref pa, .ref pb, .ref pw, .ref ps, .int (nI tm)])), (po, .inl (cI, 6, .inl (nA f))), (pk, .inl (cI, 6, .inl (nA g)))] H := hP
          have hD : va_D A [(hp, .inr (2, [.ref po, .ref pk, .ref pa, .ref pb, .ref pw, .ref ps, .int (nI tm)])), (po, .inl (cI, 6, .inl (nA f))), (pk, .inl (cI, 6, .inl (nA g)))] := hD
          subst hw_21
          have hd_21 := dgt_lt w i
          refine lv_ishl hx hb d_Pl_layWord_24 ?_
          refine t_eq (y := (nI (1 * 2 ^ (dgt w i)))) (m_shl _ (by omega)) ?_
          refine r_astN C0 hK hP hD hS 1 rfl (by omega) (by decide) d_Pl_layWord_25 (fun H locs hP hD hS => ?_)
          have hP : va_P D cls [(hp, .inr (2, [.ref po, .ref pk, .ref pa, .ref pb, .ref pw, .ref ps, .int (nI tm)])), (po, .inl (cI, 6, .inl (nA (va_up f i (1 * 2 ^ (dgt w i)))))), (pk, .inl (cI, 6, .inl (nA g)))] H := hP
          have hD : va_D A [(hp, .inr (2, [.ref po, .ref pk, .ref pa, .ref pb, .ref pw, .ref ps, .int (nI tm)])), (po, .inl (cI, 6, .inl (nA (va_up f i (1 * 2 ^ (dgt w i)))))), (pk, .inl (cI, 6, .inl (nA g)))] := hD
          refine lv_aload_n hx hb d_Pl_layWord_26 rfl (lv_at hl 0 rfl) ?_
          refine r_get C0 hK hP 0 rfl rfl i_Pl 1 (by decide) wt_59 (fun _ h => h) rfl d_Pl_layWord_27 ?_
          refine lv_iload_n hx hb d_Pl_layWord_30 rfl (lv_at hl 3 rfl) ?_
          refine lv_iconst (v := (nI 0)) hx hb d_Pl_layWord_31 (by decide) ?_
          refine r_astN C0 hK hP hD hS 2 rfl (by omega) (by decide) d_Pl_layWord_32 (fun H locs hP hD hS => ?_)
          have hP : va_P D cls [(hp, .inr (2, [.ref po, .ref pk, .ref pa, .ref pb, .ref pw, .ref ps, .int (nI tm)])), (po, .inl (cI, 6, .inl (nA (va_up f i (1 * 2 ^ (dgt w i)))))), (pk, .inl (cI, 6, .inl (nA (va_up g i 0))))] H := hP
          have hD : va_D A [(hp, .inr (2, [.ref po, .ref pk, .ref pa, .ref pb, .ref pw, .ref ps, .int (nI tm)])), (po, .inl (cI, 6, .inl (nA (va_up f i (1 * 2 ^ (dgt w i)))))), (pk, .inl (cI, 6, .inl (nA (va_up g i 0))))] := hD
          refine lv_iinc (v := (nI (i + 1))) (lv' := [(3, .int (nI (i + 1))), (0, .ref hp), (1, .int (nI mn)), (2, .int (nI w))]) hx hb d_Pl_layWord_33 hl (k := 3) rfl (by exact nI_1 _) (by decide) rfl (fun ls hl => ?_)
          refine lv_goto (tgt := 2) hx hb d_Pl_layWord_36 (by decide) ?_
          exact ih2 (i + 1) (va_up f i (1 * 2 ^ (dgt w i))) (va_up g i 0) (by omega) (by omega) (up_eq hf (Nat.one_mul _)) (up_eq hg rfl) (fun j hj => by rw [va_up_ne _ _ (by omega)]; exact hfo j (by omega)) _ _ _ hP hD hS (lv_sub hl [1, 2, 3, 0] rfl)
  exact L2 (mn + 1) 0 op kp (by omega) (by omega) (fun _ h => absurd h (Nat.not_lt_zero _)) (fun _ h => absurd h (Nat.not_lt_zero _)) (fun _ _ => rfl) _ _ _ hP hD hS (lv_sub hl [1, 2, 3, 0] rfl)
