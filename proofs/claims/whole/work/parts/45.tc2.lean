section NR6
variable {p : Program} {l : Launch} {e : Env} {R : Room} {s : State} {m : MethodId} {args : Array Value} {below : List Frame} {meth : Method} {c : Code} {H : Heap} {locs : List Loc} {cells slots : Nat} {Q : State → Prop}
variable {cc : ByteArray} {pc nL : Nat} {ls : Array Slot} {rest : List Value} {own : String} {D : va_G} {cI cA : ClassId} {tys : List (ClassId × FieldType)} {ws : va_W} {A : Nat → Prop} {a : Nat} {C : String}
theorem r_aldq (C0 : CallFix p m c cc nL s args gt own) (hK : KK D cI tys s) (hP : va_P D cls ws H) (q0 t0 : Nat) {n i : Nat} {f : Nat → Option Nat} (ha : ws[q0]? = some (a, .inl (cA, n, .inr (.inr (.inr (.inr f)))))) (ht : ((cI, .int) :: tys)[t0]? = some (cA, .object C)) (hi : i < n) (hn : n < 2147483648) (hd : decode cc pc = .ok (.aaload, 1))
    (kk : W p l e R s m args below meth c H locs cells slots Q (F0 m (pc + 1) ls (va_rf (f i) :: rest))) : W p l e R s m args below meth c H locs cells slots Q (F0 m pc ls (.int (nI i) :: .ref a :: rest)) :=
  va_aldq C0.1 C0.2.1 hK.1 hP q0 t0 ha ht (vp_in_nI hi hn) hd (by rw [nI_clamp (Nat.lt_trans hi hn)]; exact kk)
theorem r_astqN (C0 : CallFix p m c cc nL s args gt own) (hK : KK D cI tys s) (hP : va_P D cls ws H) (hD : va_D A ws) (hS : va_S A s.heap H locs) (q0 t0 : Nat) {n i : Nat} {f : Nat → Option Nat} (ha : ws[q0]? = some (a, .inl (cA, n, .inr (.inr (.inr (.inr f)))))) (ht : ((cI, .int) :: tys)[t0]? = some (cA, .object C)) (hi : i < n) (hn : n < 2147483648) (hd : decode cc pc = .ok (.aastore, 1))
    (kk : ∀ (H1 : Heap) (locs1 : List Loc), va_P D cls (ws.set q0 (a, .inl (cA, n, .inr (.inr (.inr (.inr (va_up f i none))))))) H1 → va_D A (ws.set q0 (a, .inl (cA, n, .inr (.inr (.inr (.inr (va_up f i none))))))) → va_S A s.heap H1 locs1 → W p l e R s m args below meth c H1 locs1 cells slots Q (F0 m (pc + 1) ls rest)) : W p l e R s m args below meth c H locs cells slots Q (F0 m pc ls (.null :: .int (nI i) :: .ref a :: rest)) :=
  va_astqN C0.1 C0.2.1 hK.1 hP hD hS q0 t0 ha ht (vp_in_nI hi hn) hd (fun H1 l1 h1 h2 h3 => by rw [nI_clamp (Nat.lt_trans hi hn)] at h1 h2; exact kk H1 l1 h1 h2 h3)
end NR6
abbrev tyT (cM cK : ClassId) : List (ClassId × FieldType) := [(cM, .object "TableChoices$Choices"), (cK, .object "TableChoices$Constraint")]
set_option maxHeartbeats 4000000 in
set_option maxRecDepth 100000 in
theorem c_TC_constraintAt (l : Launch) (D : va_G) (cI : ClassId) (sz : Nat) (cM : ClassId) (cK : ClassId) (h : Nat) (an : Nat) (am : Nat) (ak : Nat) (ap : Nat) (ac : Nat) (nm : Nat) (cs : Nat) (mk : Nat) (lr : Nat) (kf : Nat → Option Nat) (x : Int32) (hcs : cs ≤ 10) : MetQ l y_TC_constraintAt b_TC_constraintAt 2 (some (.object "TableChoices$Constraint")) { frames := 1, cells := 0, slots := 0, locals := 22 } D cI (tyT cM cK) sz [(h, .inr (0, [.ref an, .ref am, .ref ak, .ref ap, .ref ac, .int (nI nm), .int (nI cs), .int (nI mk), .int (nI lr)])), (ak, .inl (cK, 10, .inr (.inr (.inr (.inr kf)))))] [.ref h, .int x] (fun (r : Option Nat) (u : Unit) => r = (ixN x cs).bind kf) (fun u : Unit => [(h, .inr (0, [.ref an, .ref am, .ref ak, .ref ap, .ref ac, .int (nI nm), .int (nI cs), .int (nI mk), .int (nI lr)])), (ak, .inl (cK, 10, .inr (.inr (.inr (.inr kf)))))]) := by
  refine enter (by decide) (Nat.le_of_ble_eq_true rfl) ?_
  intro p e s m below meth c A ls C0 hr hlk hnm hK hsz hA hAe hP hD hS hl
  have hx := C0.1
  have hb := C0.2.1
  have hl : lv_has ls 2 [(0, .ref h), (1, .int x)] := hl
  refine lv_iload_n hx hb d_TC_constraintAt_0 rfl (lv_at hl 1 rfl) ?_
  refine lv_iconst (v := (nI 0)) hx hb d_TC_constraintAt_1 (by decide) ?_
  refine lv_aload_n hx hb d_TC_constraintAt_2 rfl (lv_at hl 0 rfl) ?_
  refine r_get C0 hK hP 0 rfl rfl i_TC 6 (by decide) wt_93 (fun _ h => h) rfl d_TC_constraintAt_3 ?_
  refine lv_iconst (v := (nI 1)) hx hb d_TC_constraintAt_6 (by decide) ?_
  refine lv_isub hx hb d_TC_constraintAt_7 ?_
  refine call_i (rm := { frames := 0, cells := 0, slots := 0, locals := 0 }) hS hP hD hA (spl_mk (wc := []) (wr := [(h, .inr (0, [.ref an, .ref am, .ref ak, .ref ap, .ref ac, .int (nI nm), .int (nI cs), .int (nI mk), .int (nI lr)])), (ak, .inl (cK, 10, .inr (.inr (.inr (.inr kf)))))]) [] [0, 1] rfl rfl (by decide)) (run_s (n := 3) (As := [.int x, .int (nI 0), .int (nI cs - nI 1)]) (rest := []) C0 (hK.sub [] rfl) (c_TC_isIn l D cI s.heap.size x (nI 0) (nI cs - nI 1)) wt_125 wt_1 wt_123 wt_124 (by decide +kernel) ⟨Nat.le_of_ble_eq_true rfl, Nat.le_of_ble_eq_true rfl⟩ rfl hl.1 rfl (Nat.le_of_ble_eq_true rfl) d_TC_constraintAt_8 ⟨Nat.le_of_ble_eq_true rfl, Nat.le_of_ble_eq_true rfl⟩) (fun r_8 _u8 H locs hw_8 hP hD hS => ?_)
  have hP : va_P D cls [(h, .inr (0, [.ref an, .ref am, .ref ak, .ref ap, .ref ac, .int (nI nm), .int (nI cs), .int (nI mk), .int (nI lr)])), (ak, .inl (cK, 10, .inr (.inr (.inr (.inr kf)))))] H := hP
  have hD : va_D A [(h, .inr (0, [.ref an, .ref am, .ref ak, .ref ap, .ref ac, .int (nI nm), .int (nI cs), .int (nI mk), .int (nI lr)])), (ak, .inl (cK, 10, .inr (.inr (.inr (.inr kf)))))] := hD
  subst hw_8
  refine y_eq (tgt := 29) hx hb d_TC_constraintAt_11 (by decide) (fun c_11 => ?_) (fun c_11 => ?_)
  · have hij := ix_f (by omega) c_11
    refine lv_null hx hb d_TC_constraintAt_29 ?_
    exact ret_q (v := none) C0 hr hlk hAe hS () (by rw [hij]; rfl) hP hD (Nat.le_of_ble_eq_true rfl) (Nat.le_of_ble_eq_true rfl) d_TC_constraintAt_30
  · obtain ⟨j, hjj, hxj, hij⟩ := ix_t (by omega) c_11
    have hl : lv_has ls 2 [(0, .ref h), (1, .int (nI j))] := by rw [← hxj]; exact hl
    refine lv_iload_n hx hb d_TC_constraintAt_14 rfl (lv_at hl 1 rfl) ?_
    refine lv_bipush (v := (nI 10)) hx hb d_TC_constraintAt_15 (by decide) ?_
    refine b_ge (tgt := 29) hx hb (by omega) (by decide) d_TC_constraintAt_17 (by decide) (fun c_17 => ?_) (fun c_17 => ?_)
    · exact absurd c_17 (by omega)
    · refine lv_aload_n hx hb d_TC_constraintAt_20 rfl (lv_at hl 0 rfl) ?_
      refine r_get C0 hK hP 0 rfl rfl i_TC 2 (by decide) wt_89 (fun _ h => h) rfl d_TC_constraintAt_21 ?_
      refine lv_iload_n hx hb d_TC_constraintAt_24 rfl (lv_at hl 1 rfl) ?_
      refine r_aldq C0 hK hP 1 2 rfl rfl (by omega) (by decide) d_TC_constraintAt_25 ?_
      refine lv_goto (tgt := 30) hx hb d_TC_constraintAt_26 (by decide) ?_
      exact ret_q (v := kf j) C0 hr hlk hAe hS () (by rw [hij]; rfl) hP hD (Nat.le_of_ble_eq_true rfl) (Nat.le_of_ble_eq_true rfl) d_TC_constraintAt_30
set_option maxHeartbeats 4000000 in
set_option maxRecDepth 100000 in
theorem c_TC_markAt (l : Launch) (D : va_G) (cI : ClassId) (sz : Nat) (cM : ClassId) (cK : ClassId) (h : Nat) (an : Nat) (am : Nat) (ak : Nat) (ap : Nat) (ac : Nat) (nm : Nat) (cs : Nat) (mk : Nat) (lr : Nat) (mf8 : Nat → Option Nat) (x : Int32)  : MetQ l y_TC_markAt b_TC_markAt 2 (some (.object "TableChoices$Choices")) { frames := 1, cells := 0, slots := 0, locals := 22 } D cI (tyT cM cK) sz [(h, .inr (0, [.ref an, .ref am, .ref ak, .ref ap, .ref ac, .int (nI nm), .int (nI cs), .int (nI mk), .int (nI lr)])), (am, .inl (cM, 8, .inr (.inr (.inr (.inr mf8)))))] [.ref h, .int x] (fun (r : Option Nat) (u : Unit) => r = (ixN x 8).bind mf8) (fun u : Unit => [(h, .inr (0, [.ref an, .ref am, .ref ak, .ref ap, .ref ac, .int (nI nm), .int (nI cs), .int (nI mk), .int (nI lr)])), (am, .inl (cM, 8, .inr (.inr (.inr (.inr mf8)))))]) := by
  refine enter (by decide) (Nat.le_of_ble_eq_true rfl) ?_
  intro p e s m below meth c A ls C0 hr hlk hnm hK hsz hA hAe hP hD hS hl
  have hx := C0.1
  have hb := C0.2.1
  have hl : lv_has ls 2 [(0, .ref h), (1, .int x)] := hl
  refine lv_iload_n hx hb d_TC_markAt_0 rfl (lv_at hl 1 rfl) ?_
  refine lv_iconst (v := (nI 0)) hx hb d_TC_markAt_1 (by decide) ?_
  refine lv_bipush (v := (nI 7)) hx hb d_TC_markAt_2 (by decide) ?_
  refine call_i (rm := { frames := 0, cells := 0, slots := 0, locals := 0 }) hS hP hD hA (spl_mk (wc := []) (wr := [(h, .inr (0, [.ref an, .ref am, .ref ak, .ref ap, .ref ac, .int (nI nm), .int (nI cs), .int (nI mk), .int (nI lr)])), (am, .inl (cM, 8, .inr (.inr (.inr (.inr mf8)))))]) [] [0, 1] rfl rfl (by decide)) (run_s (n := 3) (As := [.int x, .int (nI 0), .int (nI 7)]) (rest := []) C0 (hK.sub [] rfl) (c_TC_isIn l D cI s.heap.size x (nI 0) (nI 7)) wt_125 wt_1 wt_123 wt_124 (by decide +kernel) ⟨Nat.le_of_ble_eq_true rfl, Nat.le_of_ble_eq_true rfl⟩ rfl hl.1 rfl (Nat.le_of_ble_eq_true rfl) d_TC_markAt_4 ⟨Nat.le_of_ble_eq_true rfl, Nat.le_of_ble_eq_true rfl⟩) (fun r_4 _u4 H locs hw_4 hP hD hS => ?_)
  have hP : va_P D cls [(h, .inr (0, [.ref an, .ref am, .ref ak, .ref ap, .ref ac, .int (nI nm), .int (nI cs), .int (nI mk), .int (nI lr)])), (am, .inl (cM, 8, .inr (.inr (.inr (.inr mf8)))))] H := hP
  have hD : va_D A [(h, .inr (0, [.ref an, .ref am, .ref ak, .ref ap, .ref ac, .int (nI nm), .int (nI cs), .int (nI mk), .int (nI lr)])), (am, .inl (cM, 8, .inr (.inr (.inr (.inr mf8)))))] := hD
  subst hw_4
  refine y_eq (tgt := 19) hx hb d_TC_markAt_7 (by decide) (fun c_7 => ?_) (fun c_7 => ?_)
  · have hij := ik_f (by decide) c_7
    refine lv_null hx hb d_TC_markAt_19 ?_
    exact ret_q (v := none) C0 hr hlk hAe hS () (by rw [hij]; rfl) hP hD (Nat.le_of_ble_eq_true rfl) (Nat.le_of_ble_eq_true rfl) d_TC_markAt_20
  · obtain ⟨j, hjj, hxj, hij⟩ := ik_t (by decide) c_7
    have hl : lv_has ls 2 [(0, .ref h), (1, .int (nI j))] := by rw [← hxj]; exact hl
    refine lv_aload_n hx hb d_TC_markAt_10 rfl (lv_at hl 0 rfl) ?_
    refine r_get C0 hK hP 0 rfl rfl i_TC 1 (by decide) wt_88 (fun _ h => h) rfl d_TC_markAt_11 ?_
    refine lv_iload_n hx hb d_TC_markAt_14 rfl (lv_at hl 1 rfl) ?_
    refine r_aldq C0 hK hP 1 1 rfl rfl (by omega) (by decide) d_TC_markAt_15 ?_
    refine lv_goto (tgt := 20) hx hb d_TC_markAt_16 (by decide) ?_
    exact ret_q (v := mf8 j) C0 hr hlk hAe hS () (by rw [hij]; rfl) hP hD (Nat.le_of_ble_eq_true rfl) (Nat.le_of_ble_eq_true rfl) d_TC_markAt_20
set_option maxHeartbeats 4000000 in
set_option maxRecDepth 100000 in
theorem c_TC_areBounds (l : Launch) (D : va_G) (cI : ClassId) (sz : Nat) (x : Int32) (y : Int32) (z : Int32)  : MetI l y_TC_areBounds b_TC_areBounds 3 (some .boolean) { frames := 1, cells := 0, slots := 0, locals := 22 } D cI [] sz [] [.int x, .int y, .int z] (fun (r : Int32) (u : Unit) => r = (bI ((decide (nI 0 ≤ x) && decide (x ≤ z)) && (decide (x ≤ y) && decide (y ≤ z))))) (fun u : Unit => []) := by
  refine enter (by decide) (Nat.le_of_ble_eq_true rfl) ?_
  intro p e s m below meth c A ls C0 hr hlk hnm hK hsz hA hAe hP hD hS hl
  have hx := C0.1
  have hb := C0.2.1
  have hl : lv_has ls 3 [(0, .int x), (1, .int y), (2, .int z)] := hl
  refine lv_iload_n hx hb d_TC_areBounds_0 rfl (lv_at hl 0 rfl) ?_
  refine lv_iconst (v := (nI 0)) hx hb d_TC_areBounds_1 (by decide) ?_
  refine lv_iload_n hx hb d_TC_areBounds_2 rfl (lv_at hl 2 rfl) ?_
  refine call_i (rm := { frames := 0, cells := 0, slots := 0, locals := 0 }) hS hP hD hA (spl_mk (wc := []) (wr := []) [] [] rfl rfl (by decide)) (run_s (n := 3) (As := [.int x, .int (nI 0), .int z]) (rest := []) C0 (hK.sub [] rfl) (c_TC_isIn l D cI s.heap.size x (nI 0) z) wt_125 wt_1 wt_123 wt_124 (by decide +kernel) ⟨Nat.le_of_ble_eq_true rfl, Nat.le_of_ble_eq_true rfl⟩ rfl hl.1 rfl (Nat.le_of_ble_eq_true rfl) d_TC_areBounds_3 ⟨Nat.le_of_ble_eq_true rfl, Nat.le_of_ble_eq_true rfl⟩) (fun r_3 _u3 H locs hw_3 hP hD hS => ?_)
  have hP : va_P D cls [] H := hP
  have hD : va_D A [] := hD
  subst hw_3
  refine y_eq (tgt := 22) hx hb d_TC_areBounds_6 (by decide) (fun c_6 => ?_) (fun c_6 => ?_)
  · refine lv_iconst (v := (nI 0)) hx hb d_TC_areBounds_22 (by decide) ?_
    exact ret_i C0 hr hlk hAe hS () (by first | (rw [c_6, c_15]; rfl) | (rw [c_15, Bool.and_false]; rfl) | (rw [c_6]; rfl)) hP hD rfl (Nat.le_of_ble_eq_true rfl) (Nat.le_of_ble_eq_true rfl) d_TC_areBounds_23
  · refine lv_iload_n hx hb d_TC_areBounds_9 rfl (lv_at hl 1 rfl) ?_
    refine lv_iload_n hx hb d_TC_areBounds_10 rfl (lv_at hl 0 rfl) ?_
    refine lv_iload_n hx hb d_TC_areBounds_11 rfl (lv_at hl 2 rfl) ?_
    refine call_i (rm := { frames := 0, cells := 0, slots := 0, locals := 0 }) hS hP hD hA (spl_mk (wc := []) (wr := []) [] [] rfl rfl (by decide)) (run_s (n := 3) (As := [.int y, .int x, .int z]) (rest := []) C0 (hK.sub [] rfl) (c_TC_isIn l D cI H.size y x z) wt_125 wt_1 wt_123 wt_124 (by decide +kernel) ⟨Nat.le_of_ble_eq_true rfl, Nat.le_of_ble_eq_true rfl⟩ rfl hl.1 rfl (Nat.le_of_ble_eq_true rfl) d_TC_areBounds_12 ⟨Nat.le_of_ble_eq_true rfl, Nat.le_of_ble_eq_true rfl⟩) (fun r_12 _u12 H locs hw_12 hP hD hS => ?_)
    have hP : va_P D cls [] H := hP
    have hD : va_D A [] := hD
    subst hw_12
    refine y_eq (tgt := 22) hx hb d_TC_areBounds_15 (by decide) (fun c_15 => ?_) (fun c_15 => ?_)
    · refine lv_iconst (v := (nI 0)) hx hb d_TC_areBounds_22 (by decide) ?_
      exact ret_i C0 hr hlk hAe hS () (by first | (rw [c_6, c_15]; rfl) | (rw [c_15, Bool.and_false]; rfl) | (rw [c_6]; rfl)) hP hD rfl (Nat.le_of_ble_eq_true rfl) (Nat.le_of_ble_eq_true rfl) d_TC_areBounds_23
    · refine lv_iconst (v := (nI 1)) hx hb d_TC_areBounds_18 (by decide) ?_
      refine lv_goto (tgt := 23) hx hb d_TC_areBounds_19 (by decide) ?_
      exact ret_i C0 hr hlk hAe hS () (by first | (rw [c_6, c_15]; rfl) | (rw [c_15, Bool.and_false]; rfl) | (rw [c_6]; rfl)) hP hD rfl (Nat.le_of_ble_eq_true rfl) (Nat.le_of_ble_eq_true rfl) d_TC_areBounds_23
set_option maxHeartbeats 4000000 in
set_option maxRecDepth 100000 in
theorem c_TC_undo (l : Launch) (D : va_G) (cI : ClassId) (sz : Nat) (cM : ClassId) (cK : ClassId) (h : Nat) (an : Nat) (am : Nat) (ak : Nat) (ap : Nat) (ac : Nat) (nm : Nat) (cs : Nat) (mk : Nat) (lr : Nat) (kf : Nat → Option Nat) (hcs : cs ≤ 10) : MetI l y_TC_undo b_TC_undo 1 (some .int) { frames := 0, cells := 0, slots := 0, locals := 0 } D cI (tyT cM cK) sz [(h, .inr (0, [.ref an, .ref am, .ref ak, .ref ap, .ref ac, .int (nI nm), .int (nI cs), .int (nI mk), .int (nI lr)])), (ak, .inl (cK, 10, .inr (.inr (.inr (.inr kf)))))] [.ref h] (fun (r : Int32) (u : Nat × (Nat → Option Nat)) => (cs = 0 ∧ r = -1 ∧ u = (cs, kf)) ∨ (¬ cs = 0 ∧ r = nI (cs - 1) ∧ u = (cs - 1, va_up kf (cs - 1) none))) (fun u : Nat × (Nat → Option Nat) => [(h, .inr (0, [.ref an, .ref am, .ref ak, .ref ap, .ref ac, .int (nI nm), .int (nI u.1), .int (nI mk), .int (nI lr)])), (ak, .inl (cK, 10, .inr (.inr (.inr (.inr u.2)))))]) := by
  refine enter (by decide) (Nat.le_of_ble_eq_true rfl) ?_
  intro p e s m below meth c A ls C0 hr hlk hnm hK hsz hA hAe hP hD hS hl
  have hx := C0.1
  have hb := C0.2.1
  have hl : lv_has ls 1 [(0, .ref h)] := hl
  refine lv_aload_n hx hb d_TC_undo_0 rfl (lv_at hl 0 rfl) ?_
  refine r_get C0 hK hP 0 rfl rfl i_TC 6 (by decide) wt_93 (fun _ h => h) rfl d_TC_undo_1 ?_
  refine z_gt (tgt := 9) hx hb (by omega) d_TC_undo_4 (by decide) (fun c_4 => ?_) (fun c_4 => ?_)
  · refine lv_aload_n hx hb d_TC_undo_9 rfl (lv_at hl 0 rfl) ?_
    refine lv_dup hx hb d_TC_undo_10 rfl ?_
    refine r_get C0 hK hP 0 rfl rfl i_TC 6 (by decide) wt_93 (fun _ h => h) rfl d_TC_undo_11 ?_
    refine lv_iconst (v := (nI 1)) hx hb d_TC_undo_14 (by decide) ?_
    refine lv_isub hx hb d_TC_undo_15 ?_
    refine t_eq (y := (nI (cs - 1))) (pk_sub (by omega)) ?_
    refine r_put C0 hK hP hD hS 0 rfl rfl i_TC t_TC k_TC n_TC 6 (by decide) wt_93 (fun _ h => h) rfl rfl rfl (Nat.le_of_ble_eq_true rfl) d_TC_undo_16 (fun H locs hP hD hS => ?_)
    have hP : va_P D cls [(h, .inr (0, [.ref an, .ref am, .ref ak, .ref ap, .ref ac, .int (nI nm), .int (nI (cs - 1)), .int (nI mk), .int (nI lr)])), (ak, .inl (cK, 10, .inr (.inr (.inr (.inr kf)))))] H := hP
    have hD : va_D A [(h, .inr (0, [.ref an, .ref am, .ref ak, .ref ap, .ref ac, .int (nI nm), .int (nI (cs - 1)), .int (nI mk), .int (nI lr)])), (ak, .inl (cK, 10, .inr (.inr (.inr (.inr kf)))))] := hD
    refine lv_aload_n hx hb d_TC_undo_19 rfl (lv_at hl 0 rfl) ?_
    refine r_get C0 hK hP 0 rfl rfl i_TC 2 (by decide) wt_89 (fun _ h => h) rfl d_TC_undo_20 ?_
    refine lv_aload_n hx hb d_TC_undo_23 rfl (lv_at hl 0 rfl) ?_
    refine r_get C0 hK hP 0 rfl rfl i_TC 6 (by decide) wt_93 (fun _ h => h) rfl d_TC_undo_24 ?_
    refine lv_null hx hb d_TC_undo_27 ?_
    refine r_astqN C0 hK hP hD hS 1 2 rfl rfl (by omega) (by decide) d_TC_undo_28 (fun H locs hP hD hS => ?_)
    have hP : va_P D cls [(h, .inr (0, [.ref an, .ref am, .ref ak, .ref ap, .ref ac, .int (nI nm), .int (nI (cs - 1)), .int (nI mk), .int (nI lr)])), (ak, .inl (cK, 10, .inr (.inr (.inr (.inr (va_up kf (cs - 1) none))))))] H := hP
    have hD : va_D A [(h, .inr (0, [.ref an, .ref am, .ref ak, .ref ap, .ref ac, .int (nI nm), .int (nI (cs - 1)), .int (nI mk), .int (nI lr)])), (ak, .inl (cK, 10, .inr (.inr (.inr (.inr (va_up kf (cs - 1) none))))))] := hD
    refine lv_aload_n hx hb d_TC_undo_29 rfl (lv_at hl 0 rfl) ?_
    refine r_get C0 hK hP 0 rfl rfl i_TC 6 (by decide) wt_93 (fun _ h => h) rfl d_TC_undo_30 ?_
    exact ret_i C0 hr hlk hAe hS (cs - 1, va_up kf (cs - 1) none) (by first | exact Or.inl ⟨c_4, rfl, rfl⟩ | exact Or.inr ⟨by omega, rfl, rfl⟩) hP hD rfl (Nat.le_of_ble_eq_true rfl) (Nat.le_of_ble_eq_true rfl) d_TC_undo_33
  · refine lv_iconst (v := (-1)) hx hb d_TC_undo_7 (by decide) ?_
    exact ret_i C0 hr hlk hAe hS (cs, kf) (by first | exact Or.inl ⟨c_4, rfl, rfl⟩ | exact Or.inr ⟨by omega, rfl, rfl⟩) hP hD rfl (Nat.le_of_ble_eq_true rfl) (Nat.le_of_ble_eq_true rfl) d_TC_undo_8
