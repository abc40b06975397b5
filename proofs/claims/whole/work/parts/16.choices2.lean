/-- places b .. below b + i of f hold h 0, h 1 .. -/
def fil (f : Nat → Int32) (b : Nat) (h : Nat → Int32) (i : Nat) : Nat → Int32 := fun j => if b ≤ j ∧ j < b + i then h (j - b) else f j
theorem fil_0 {f h : Nat → Int32} {b : Nat} : fil f b h 0 = f := by
  funext j
  unfold fil
  rw [if_neg (by omega)]
theorem fil_1 {f h : Nat → Int32} {b i : Nat} {v : Int32} (e : v = h i) : upd (fil f b h i) (b + i) v = fil f b h (i + 1) := by
  funext j
  unfold upd fil
  by_cases hj : j = b + i
  · subst hj
    rw [if_pos rfl, if_pos ⟨by omega, by omega⟩, Nat.add_sub_cancel_left, e]
  · rw [if_neg hj]
    by_cases hk : b ≤ j ∧ j < b + i
    · rw [if_pos hk, if_pos ⟨hk.1, by omega⟩]
    · rw [if_neg hk, if_neg (fun q => hk ⟨q.1, by omega⟩)]
def bgR (v : Nat) : Nat → Int32 := fun j => if j < v then -1 else nI 11
set_option maxHeartbeats 4000000 in
set_option maxRecDepth 100000 in
theorem c_Ch_begin (l : Launch) (D : va_G) (cI : ClassId) (sz : Nat) (hc : Nat) (cd : Nat) (cr : Nat) (cn : Nat) (dm : Nat → Nat) (rs : Nat → Int32) (rn : Nat → Int32) (k : Nat) (v : Nat) (hk : k < 6) (hv : v ≤ 6) : MetV l y_Ch_begin b_Ch_begin 4 { frames := 0, cells := 0, slots := 0, locals := 0 } D cI [] sz [(hc, .inr (1, [.ref cd, .ref cr, .ref cn])), (cd, .inl (cI, 6, .inl (nA dm))), (cr, .inl (cI, 36, .inl rs)), (cn, .inl (cI, 36, .inl rn))] [.ref hc, .int (nI k), .int (nI v)] (fun (u : Unit) => True) (fun u : Unit => [(hc, .inr (1, [.ref cd, .ref cr, .ref cn])), (cd, .inl (cI, 6, .inl (nA (va_up dm k (1 * 2 ^ v - 1))))), (cr, .inl (cI, 36, .inl (fil rs (k * 6) (bgR v) 6))), (cn, .inl (cI, 36, .inl (fil rn (k * 6) (fun _ => nI 0) 6)))]) := by
  refine enter (by decide) (Nat.le_of_ble_eq_true rfl) ?_
  intro p e s m below meth c A ls C0 hr hlk hnm hK hsz hA hAe hP hD hS hl
  have hx := C0.1
  have hb := C0.2.1
  have hl : lv_has ls 4 [(0, .ref hc), (1, .int (nI k)), (2, .int (nI v))] := hl
  refine lv_iload_n hx hb d_Ch_begin_0 rfl (lv_at hl 1 rfl) ?_
  refine z_lt (tgt := 10) hx hb (by omega) d_Ch_begin_1 (by decide) ?_
  refine lv_iload_n hx hb d_Ch_begin_4 rfl (lv_at hl 1 rfl) ?_
  refine lv_bipush (v := (nI 6)) hx hb d_Ch_begin_5 (by decide) ?_
  refine b_lt (tgt := 11) hx hb (by omega) (by decide) d_Ch_begin_7 (by decide) (fun c_7 => ?_) (fun c_7 => ?_)
  · refine lv_aload_n hx hb d_Ch_begin_11 rfl (lv_at hl 0 rfl) ?_
    refine r_get C0 hK hP 0 rfl rfl i_Ch 0 (by decide) wt_31 (fun _ h => h) rfl d_Ch_begin_12 ?_
    refine lv_iload_n hx hb d_Ch_begin_15 rfl (lv_at hl 1 rfl) ?_
    refine lv_iconst (v := (nI 1)) hx hb d_Ch_begin_16 (by decide) ?_
    refine lv_iload_n hx hb d_Ch_begin_17 rfl (lv_at hl 2 rfl) ?_
    refine lv_ishl hx hb d_Ch_begin_18 ?_
    refine t_eq (y := (nI (1 * 2 ^ v))) (m_shl _ (by omega)) ?_
    refine lv_iconst (v := (nI 1)) hx hb d_Ch_begin_19 (by decide) ?_
    refine lv_isub hx hb d_Ch_begin_20 ?_
    refine t_eq (y := (nI ((1 * 2 ^ v) - 1))) (pk_sub (by have := Nat.two_pow_pos v; omega)) ?_
    refine r_astN C0 hK hP hD hS 1 rfl (by omega) (by decide) d_Ch_begin_21 (fun H locs hP hD hS => ?_)
    have hP : va_P D cls [(hc, .inr (1, [.ref cd, .ref cr, .ref cn])), (cd, .inl (cI, 6, .inl (nA (va_up dm k ((1 * 2 ^ v) - 1))))), (cr, .inl (cI, 36, .inl rs)), (cn, .inl (cI, 36, .inl rn))] H := hP
    have hD : va_D A [(hc, .inr (1, [.ref cd, .ref cr, .ref cn])), (cd, .inl (cI, 6, .inl (nA (va_up dm k ((1 * 2 ^ v) - 1))))), (cr, .inl (cI, 36, .inl rs)), (cn, .inl (cI, 36, .inl rn))] := hD
    refine lv_iconst (v := (nI 0)) hx hb d_Ch_begin_22 (by decide) ?_
    refine lv_istore_n (lv' := [(3, .int (nI 0)), (0, .ref hc), (1, .int (nI k)), (2, .int (nI v))]) hx hb d_Ch_begin_23 rfl hl (by decide) rfl (fun ls hl => ?_)
    rw [show rs = fil rs (k * 6) (bgR v) 0 from fil_0.symm] at hP hD
    rw [show rn = fil rn (k * 6) (fun _ => nI 0) 0 from fil_0.symm] at hP hD
    have L24 : ∀ (fuel24 : Nat) (i : Nat), (i ≤ 6) → (6 < i + fuel24) → ∀ (H : Heap) (locs : List Loc) (ls : Array Slot), va_P D cls [(hc, .inr (1, [.ref cd, .ref cr, .ref cn])), (cd, .inl (cI, 6, .inl (nA (va_up dm k (1 * 2 ^ v - 1))))), (cr, .inl (cI, 36, .inl (fil rs (k * 6) (bgR v) i))), (cn, .inl (cI, 36, .inl (fil rn (k * 6) (fun _ => nI 0) i)))] H → va_D A [(hc, .inr (1, [.ref cd, .ref cr, .ref cn])), (cd, .inl (cI, 6, .inl (nA (va_up dm k (1 * 2 ^ v - 1))))), (cr, .inl (cI, 36, .inl (fil rs (k * 6) (bgR v) i))), (cn, .inl (cI, 36, .inl (fil rn (k * 6) (fun _ => nI 0) i)))] → va_S A s.heap H locs → lv_has ls 4 [(3, .int (nI i)), (0, .ref hc), (1, .int (nI k)), (2, .int (nI v))] → W p l e { frames := 0, cells := 0, slots := 0, locals := 0 } s m ([.ref hc, .int (nI k), .int (nI v)] : List Value).toArray below meth c H locs 0 0 (MQ below (pstV D [(hc, .inr (1, [.ref cd, .ref cr, .ref cn])), (cd, .inl (cI, 6, .inl (nA dm))), (cr, .inl (cI, 36, .inl rs)), (cn, .inl (cI, 36, .inl rn))] sz (fun (u : Unit) => True) (fun u : Unit => [(hc, .inr (1, [.ref cd, .ref cr, .ref cn])), (cd, .inl (cI, 6, .inl (nA (va_up dm k (1 * 2 ^ v - 1))))), (cr, .inl (cI, 36, .inl (fil rs (k * 6) (bgR v) 6))), (cn, .inl (cI, 36, .inl (fil rn (k * 6) (fun _ => nI 0) 6)))])) ([.ref hc, .int (nI k), .int (nI v)] : List Value).toArray s 0 0 A) (F0 m 24 ls []) := by
      intro fuel24
      induction fuel24 with
      | zero => intros; omega
      | succ fuel24 ih24 =>
        intro i hi hfu H locs ls hP hD hS hl
        refine lv_iload_n hx hb d_Ch_begin_24 rfl (lv_at hl 0 rfl) ?_
        refine lv_bipush (v := (nI 6)) hx hb d_Ch_begin_25 (by decide) ?_
        refine b_ge (tgt := 70) hx hb (by omega) (by decide) d_Ch_begin_27 (by decide) (fun c_27 => ?_) (fun c_27 => ?_)
        · obtain rfl : i = 6 := (by omega)
          exact ret_v C0 hr hlk hAe hS () trivial hP hD (Nat.le_of_ble_eq_true rfl) (Nat.le_of_ble_eq_true rfl) d_Ch_begin_70
        · refine lv_aload_n hx hb d_Ch_begin_30 rfl (lv_at hl 1 rfl) ?_
          refine r_get C0 hK hP 0 rfl rfl i_Ch 1 (by decide) wt_33 (fun _ h => h) rfl d_Ch_begin_31 ?_
          refine lv_iload_n hx hb d_Ch_begin_34 rfl (lv_at hl 2 rfl) ?_
          refine lv_bipush (v := (nI 6)) hx hb d_Ch_begin_35 (by decide) ?_
          refine lv_imul hx hb d_Ch_begin_37 ?_
          refine t_eq (y := (nI (k * 6))) (pk_mul _ _) ?_
          refine lv_iload_n hx hb d_Ch_begin_38 rfl (lv_at hl 0 rfl) ?_
          refine lv_iadd hx hb d_Ch_begin_39 ?_
          refine t_eq (y := (nI ((k * 6) + i))) (nI_add _ _) ?_
          refine lv_iload_n hx hb d_Ch_begin_40 rfl (lv_at hl 0 rfl) ?_
          refine lv_iload_n hx hb d_Ch_begin_41 rfl (lv_at hl 3 rfl) ?_
          refine b_ge (tgt := 49) hx hb (by omega) (by omega) d_Ch_begin_42 (by decide) (fun c_42 => ?_) (fun c_42 => ?_)
          · refine lv_bipush (v := (nI 11)) hx hb d_Ch_begin_49 (by decide) ?_
            refine r_ast C0 hK hP hD hS 2 rfl (by omega) (by decide) d_Ch_begin_51 (fun H locs hP hD hS => ?_)
            have hP : va_P D cls [(hc, .inr (1, [.ref cd, .ref cr, .ref cn])), (cd, .inl (cI, 6, .inl (nA (va_up dm k (1 * 2 ^ v - 1))))), (cr, .inl (cI, 36, .inl (upd (fil rs (k * 6) (bgR v) i) ((k * 6) + i) (nI 11)))), (cn, .inl (cI, 36, .inl (fil rn (k * 6) (fun _ => nI 0) i)))] H := hP
            have hD : va_D A [(hc, .inr (1, [.ref cd, .ref cr, .ref cn])), (cd, .inl (cI, 6, .inl (nA (va_up dm k (1 * 2 ^ v - 1))))), (cr, .inl (cI, 36, .inl (upd (fil rs (k * 6) (bgR v) i) ((k * 6) + i) (nI 11)))), (cn, .inl (cI, 36, .inl (fil rn (k * 6) (fun _ => nI 0) i)))] := hD
            refine lv_aload_n hx hb d_Ch_begin_52 rfl (lv_at hl 1 rfl) ?_
            refine r_get C0 hK hP 0 rfl rfl i_Ch 2 (by decide) wt_35 (fun _ h => h) rfl d_Ch_begin_53 ?_
            refine lv_iload_n hx hb d_Ch_begin_56 rfl (lv_at hl 2 rfl) ?_
            refine lv_bipush (v := (nI 6)) hx hb d_Ch_begin_57 (by decide) ?_
            refine lv_imul hx hb d_Ch_begin_59 ?_
            refine t_eq (y := (nI (k * 6))) (pk_mul _ _) ?_
            refine lv_iload_n hx hb d_Ch_begin_60 rfl (lv_at hl 0 rfl) ?_
            refine lv_iadd hx hb d_Ch_begin_61 ?_
            refine t_eq (y := (nI ((k * 6) + i))) (nI_add _ _) ?_
            refine lv_iconst (v := (nI 0)) hx hb d_Ch_begin_62 (by decide) ?_
            refine r_ast C0 hK hP hD hS 3 rfl (by omega) (by decide) d_Ch_begin_63 (fun H locs hP hD hS => ?_)
            have hP : va_P D cls [(hc, .inr (1, [.ref cd, .ref cr, .ref cn])), (cd, .inl (cI, 6, .inl (nA (va_up dm k (1 * 2 ^ v - 1))))), (cr, .inl (cI, 36, .inl (upd (fil rs (k * 6) (bgR v) i) ((k * 6) + i) (nI 11)))), (cn, .inl (cI, 36, .inl (upd (fil rn (k * 6) (fun _ => nI 0) i) ((k * 6) + i) (nI 0))))] H := hP
            have hD : va_D A [(hc, .inr (1, [.ref cd, .ref cr, .ref cn])), (cd, .inl (cI, 6, .inl (nA (va_up dm k (1 * 2 ^ v - 1))))), (cr, .inl (cI, 36, .inl (upd (fil rs (k * 6) (bgR v) i) ((k * 6) + i) (nI 11)))), (cn, .inl (cI, 36, .inl (upd (fil rn (k * 6) (fun _ => nI 0) i) ((k * 6) + i) (nI 0))))] := hD
            rw [show (upd (fil rs (k * 6) (bgR v) i) ((k * 6) + i) (nI 11)) = fil rs (k * 6) (bgR v) (i + 1) from fil_1 (by unfold bgR; rw [if_neg (by omega)])] at hP hD
            rw [show (upd (fil rn (k * 6) (fun _ => nI 0) i) ((k * 6) + i) (nI 0)) = fil rn (k * 6) (fun _ => nI 0) (i + 1) from fil_1 rfl] at hP hD
            refine lv_iinc (v := (nI (i + 1))) (lv' := [(3, .int (nI (i + 1))), (0, .ref hc), (1, .int (nI k)), (2, .int (nI v))]) hx hb d_Ch_begin_64 hl (k := 0) rfl (by exact nI_1 _) (by decide) rfl (fun ls hl => ?_)
            refine lv_goto (tgt := 24) hx hb d_Ch_begin_67 (by decide) ?_
            exact ih24 (i + 1) (by omega) (by omega) _ _ _ hP hD hS (lv_sub hl [0, 1, 2, 3] rfl)
          · refine lv_iconst (v := (-1)) hx hb d_Ch_begin_45 (by decide) ?_
            refine lv_goto (tgt := 51) hx hb d_Ch_begin_46 (by decide) ?_
            refine r_ast C0 hK hP hD hS 2 rfl (by omega) (by decide) d_Ch_begin_51 (fun H locs hP hD hS => ?_)
            have hP : va_P D cls [(hc, .inr (1, [.ref cd, .ref cr, .ref cn])), (cd, .inl (cI, 6, .inl (nA (va_up dm k (1 * 2 ^ v - 1))))), (cr, .inl (cI, 36, .inl (upd (fil rs (k * 6) (bgR v) i) ((k * 6) + i) (-1)))), (cn, .inl (cI, 36, .inl (fil rn (k * 6) (fun _ => nI 0) i)))] H := hP
            have hD : va_D A [(hc, .inr (1, [.ref cd, .ref cr, .ref cn])), (cd, .inl (cI, 6, .inl (nA (va_up dm k (1 * 2 ^ v - 1))))), (cr, .inl (cI, 36, .inl (upd (fil rs (k * 6) (bgR v) i) ((k * 6) + i) (-1)))), (cn, .inl (cI, 36, .inl (fil rn (k * 6) (fun _ => nI 0) i)))] := hD
            refine lv_aload_n hx hb d_Ch_begin_52 rfl (lv_at hl 1 rfl) ?_
            refine r_get C0 hK hP 0 rfl rfl i_Ch 2 (by decide) wt_35 (fun _ h => h) rfl d_Ch_begin_53 ?_
            refine lv_iload_n hx hb d_Ch_begin_56 rfl (lv_at hl 2 rfl) ?_
            refine lv_bipush (v := (nI 6)) hx hb d_Ch_begin_57 (by decide) ?_
            refine lv_imul hx hb d_Ch_begin_59 ?_
            refine t_eq (y := (nI (k * 6))) (pk_mul _ _) ?_
            refine lv_iload_n hx hb d_Ch_begin_60 rfl (lv_at hl 0 rfl) ?_
            refine lv_iadd hx hb d_Ch_begin_61 ?_
            refine t_eq (y := (nI ((k * 6) + i))) (nI_add _ _) ?_
            refine lv_iconst (v := (nI 0)) hx hb d_Ch_begin_62 (by decide) ?_
            refine r_ast C0 hK hP hD hS 3 rfl (by omega) (by decide) d_Ch_begin_63 (fun H locs hP hD hS => ?_)
            have hP : va_P D cls [(hc, .inr (1, [.ref cd, .ref cr, .ref cn])), (cd, .inl (cI, 6, .inl (nA (va_up dm k (1 * 2 ^ v - 1))))), (cr, .inl (cI, 36, .inl (upd (fil rs (k * 6) (bgR v) i) ((k * 6) + i) (-1)))), (cn, .inl (cI, 36, .inl (upd (fil rn (k * 6) (fun _ => nI 0) i) ((k * 6) + i) (nI 0))))] H := hP
            have hD : va_D A [(hc, .inr (1, [.ref cd, .ref cr, .ref cn])), (cd, .inl (cI, 6, .inl (nA (va_up dm k (1 * 2 ^ v - 1))))), (cr, .inl (cI, 36, .inl (upd (fil rs (k * 6) (bgR v) i) ((k * 6) + i) (-1)))), (cn, .inl (cI, 36, .inl (upd (fil rn (k * 6) (fun _ => nI 0) i) ((k * 6) + i) (nI 0))))] := hD
            rw [show (upd (fil rs (k * 6) (bgR v) i) ((k * 6) + i) (-1)) = fil rs (k * 6) (bgR v) (i + 1) from fil_1 (by unfold bgR; rw [if_pos c_42])] at hP hD
            rw [show (upd (fil rn (k * 6) (fun _ => nI 0) i) ((k * 6) + i) (nI 0)) = fil rn (k * 6) (fun _ => nI 0) (i + 1) from fil_1 rfl] at hP hD
            refine lv_iinc (v := (nI (i + 1))) (lv' := [(3, .int (nI (i + 1))), (0, .ref hc), (1, .int (nI k)), (2, .int (nI v))]) hx hb d_Ch_begin_64 hl (k := 0) rfl (by exact nI_1 _) (by decide) rfl (fun ls hl => ?_)
            refine lv_goto (tgt := 24) hx hb d_Ch_begin_67 (by decide) ?_
            exact ih24 (i + 1) (by omega) (by omega) _ _ _ hP hD hS (lv_sub hl [0, 1, 2, 3] rfl)
    exact L24 (7) 0 (by omega) (by omega) _ _ _ hP hD hS (lv_sub hl [0, 1, 2, 3] rfl)
  · exact absurd c_7 (by omega)
set_option maxHeartbeats 4000000 in
set_option maxRecDepth 100000 in
theorem c_Ch_copy (l : Launch) (D : va_G) (cI : ClassId) (sz : Nat) (hc : Nat) (cd : Nat) (cr : Nat) (cn : Nat) (hb2 : Nat) (ed : Nat) (er : Nat) (en : Nat) (dm : Nat → Nat) (dm2 : Nat → Nat) (rs : Nat → Int32) (rn : Nat → Int32) (rs2 : Nat → Int32) (rn2 : Nat → Int32)  : MetV l y_Ch_copy b_Ch_copy 2 { frames := 1, cells := 0, slots := 0, locals := 40 } D cI [] sz [(hc, .inr (1, [.ref cd, .ref cr, .ref cn])), (cd, .inl (cI, 6, .inl (nA dm))), (cr, .inl (cI, 36, .inl rs)), (cn, .inl (cI, 36, .inl rn)), (hb2, .inr (1, [.ref ed, .ref er, .ref en])), (ed, .inl (cI, 6, .inl (nA dm2))), (er, .inl (cI, 36, .inl rs2)), (en, .inl (cI, 36, .inl rn2))] [.ref hc, .ref hb2] (fun (u : Unit) => True) (fun u : Unit => [(hc, .inr (1, [.ref cd, .ref cr, .ref cn])), (cd, .inl (cI, 6, .inl (nA dm2))), (cr, .inl (cI, 36, .inl rs2)), (cn, .inl (cI, 36, .inl rn2)), (hb2, .inr (1, [.ref ed, .ref er, .ref en])), (ed, .inl (cI, 6, .inl (nA dm2))), (er, .inl (cI, 36, .inl rs2)), (en, .inl (cI, 36, .inl rn2))]) := by
  refine enter (by decide) (Nat.le_of_ble_eq_true rfl) ?_
  intro p e s m below meth c A ls C0 hr hlk hnm hK hsz hA hAe hP hD hS hl
  have hx := C0.1
  have hb := C0.2.1
  have hl : lv_has ls 2 [(0, .ref hc), (1, .ref hb2)] := hl
  refine lv_aload_n hx hb d_Ch_copy_0 rfl (lv_at hl 1 rfl) ?_
  refine r_get C0 hK hP 4 rfl rfl i_Ch 0 (by decide) wt_31 (fun _ h => h) rfl d_Ch_copy_1 ?_
  refine lv_iconst (v := (nI 0)) hx hb d_Ch_copy_4 (by decide) ?_
  refine lv_aload_n hx hb d_Ch_copy_5 rfl (lv_at hl 0 rfl) ?_
  refine r_get C0 hK hP 0 rfl rfl i_Ch 0 (by decide) wt_31 (fun _ h => h) rfl d_Ch_copy_6 ?_
  refine lv_iconst (v := (nI 0)) hx hb d_Ch_copy_9 (by decide) ?_
  refine lv_bipush (v := (nI 6)) hx hb d_Ch_copy_10 (by decide) ?_
  refine r_copy C0 hK hP hD hS wt_544 hl.1 5 1 rfl rfl (by decide) (Nat.le_of_ble_eq_true rfl) (Nat.le_of_ble_eq_true rfl) (by decide) d_Ch_copy_12 (fun H locs hP hD hS => ?_)
  have hP : va_P D cls [(hc, .inr (1, [.ref cd, .ref cr, .ref cn])), (cd, .inl (cI, 6, .inl (nA dm2))), (cr, .inl (cI, 36, .inl rs)), (cn, .inl (cI, 36, .inl rn)), (hb2, .inr (1, [.ref ed, .ref er, .ref en])), (ed, .inl (cI, 6, .inl (nA dm2))), (er, .inl (cI, 36, .inl rs2)), (en, .inl (cI, 36, .inl rn2))] H := hP
  have hD : va_D A [(hc, .inr (1, [.ref cd, .ref cr, .ref cn])), (cd, .inl (cI, 6, .inl (nA dm2))), (cr, .inl (cI, 36, .inl rs)), (cn, .inl (cI, 36, .inl rn)), (hb2, .inr (1, [.ref ed, .ref er, .ref en])), (ed, .inl (cI, 6, .inl (nA dm2))), (er, .inl (cI, 36, .inl rs2)), (en, .inl (cI, 36, .inl rn2))] := hD
  refine lv_aload_n hx hb d_Ch_copy_15 rfl (lv_at hl 1 rfl) ?_
  refine r_get C0 hK hP 4 rfl rfl i_Ch 1 (by decide) wt_33 (fun _ h => h) rfl d_Ch_copy_16 ?_
  refine lv_iconst (v := (nI 0)) hx hb d_Ch_copy_19 (by decide) ?_
  refine lv_aload_n hx hb d_Ch_copy_20 rfl (lv_at hl 0 rfl) ?_
  refine r_get C0 hK hP 0 rfl rfl i_Ch 1 (by decide) wt_33 (fun _ h => h) rfl d_Ch_copy_21 ?_
  refine lv_iconst (v := (nI 0)) hx hb d_Ch_copy_24 (by decide) ?_
  refine lv_bipush (v := (nI 36)) hx hb d_Ch_copy_25 (by decide) ?_
  refine r_copy C0 hK hP hD hS wt_544 hl.1 6 2 rfl rfl (by decide) (Nat.le_of_ble_eq_true rfl) (Nat.le_of_ble_eq_true rfl) (by decide) d_Ch_copy_27 (fun H locs hP hD hS => ?_)
  have hP : va_P D cls [(hc, .inr (1, [.ref cd, .ref cr, .ref cn])), (cd, .inl (cI, 6, .inl (nA dm2))), (cr, .inl (cI, 36, .inl rs2)), (cn, .inl (cI, 36, .inl rn)), (hb2, .inr (1, [.ref ed, .ref er, .ref en])), (ed, .inl (cI, 6, .inl (nA dm2))), (er, .inl (cI, 36, .inl rs2)), (en, .inl (cI, 36, .inl rn2))] H := hP
  have hD : va_D A [(hc, .inr (1, [.ref cd, .ref cr, .ref cn])), (cd, .inl (cI, 6, .inl (nA dm2))), (cr, .inl (cI, 36, .inl rs2)), (cn, .inl (cI, 36, .inl rn)), (hb2, .inr (1, [.ref ed, .ref er, .ref en])), (ed, .inl (cI, 6, .inl (nA dm2))), (er, .inl (cI, 36, .inl rs2)), (en, .inl (cI, 36, .inl rn2))] := hD
  refine lv_aload_n hx hb d_Ch_copy_30 rfl (lv_at hl 1 rfl) ?_
  refine r_get C0 hK hP 4 rfl rfl i_Ch 2 (by decide) wt_35 (fun _ h => h) rfl d_Ch_copy_31 ?_
  refine lv_iconst (v := (nI 0)) hx hb d_Ch_copy_34 (by decide) ?_
  refine lv_aload_n hx hb d_Ch_copy_35 rfl (lv_at hl 0 rfl) ?_
  refine r_get C0 hK hP 0 rfl rfl i_Ch 2 (by decide) wt_35 (fun _ h => h) rfl d_Ch_copy_36 ?_
  refine lv_iconst (v := (nI 0)) hx hb d_Ch_copy_39 (by decide) ?_
  refine lv_bipush (v := (nI 36)) hx hb d_Ch_copy_40 (by decide) ?_
  refine r_copy C0 hK hP hD hS wt_544 hl.1 7 3 rfl rfl (by decide) (Nat.le_of_ble_eq_true rfl) (Nat.le_of_ble_eq_true rfl) (by decide) d_Ch_copy_42 (fun H locs hP hD hS => ?_)
  have hP : va_P D cls [(hc, .inr (1, [.ref cd, .ref cr, .ref cn])), (cd, .inl (cI, 6, .inl (nA dm2))), (cr, .inl (cI, 36, .inl rs2)), (cn, .inl (cI, 36, .inl rn2)), (hb2, .inr (1, [.ref ed, .ref er, .ref en])), (ed, .inl (cI, 6, .inl (nA dm2))), (er, .inl (cI, 36, .inl rs2)), (en, .inl (cI, 36, .inl rn2))] H := hP
  have hD : va_D A [(hc, .inr (1, [.ref cd, .ref cr, .ref cn])), (cd, .inl (cI, 6, .inl (nA dm2))), (cr, .inl (cI, 36, .inl rs2)), (cn, .inl (cI, 36, .inl rn2)), (hb2, .inr (1, [.ref ed, .ref er, .ref en])), (ed, .inl (cI, 6, .inl (nA dm2))), (er, .inl (cI, 36, .inl rs2)), (en, .inl (cI, 36, .inl rn2))] := hD
  exact ret_v C0 hr hlk hAe hS () trivial hP hD (Nat.le_of_ble_eq_true rfl) (Nat.le_of_ble_eq_true rfl) d_Ch_copy_45
set_option maxHeartbeats 4000000 in
set_option maxRecDepth 100000 in
theorem c_Pl_init (l : Launch) (D : va_G) (cI : ClassId) (sz : Nat) (hp : Nat)  : MetV l y_Pl_init b_Pl_init 1 { frames := 1, cells := 6, slots := 892, locals := 12 } D cI [] sz [(hp, .inr (2, [.null, .null, .null, .null, .null, .null, .int (nI 0)]))] [.ref hp] (fun (u : Nat × Nat × Nat × Nat × Nat × Nat) => True) (fun u : Nat × Nat × Nat × Nat × Nat × Nat => [(hp, .inr (2, [.ref u.1, .ref u.2.1, .ref u.2.2.1, .ref u.2.2.2.1, .ref u.2.2.2.2.1, .ref u.2.2.2.2.2, .int (nI 0)])), (u.1, .inl (cI, 6, .inl (nA (fun _ => 0)))), (u.2.1, .inl (cI, 6, .inl (nA (fun _ => 0)))), (u.2.2.1, .inl (cI, 56, .inl (nA (fun _ => 0)))), (u.2.2.2.1, .inl (cI, 56, .inl (nA (fun _ => 0)))), (u.2.2.2.2.1, .inl (cI, 384, .inl (nA (fun _ => 0)))), (u.2.2.2.2.2, .inl (cI, 384, .inl (nA (fun _ => 0))))]) := by
  refine enter (by decide) (Nat.le_of_ble_eq_true rfl) ?_
  intro p e s m below meth c A ls C0 hr hlk hnm hK hsz hA hAe hP hD hS hl
  have hx := C0.1
  have hb := C0.2.1
  have hl : lv_has ls 1 [(0, .ref hp)] := hl
  refine lv_aload_n hx hb d_Pl_init_0 rfl (lv_at hl 0 rfl) ?_
  refine r_obj C0 wt_53 hl.1 (Nat.le_of_ble_eq_true rfl) (Nat.le_of_ble_eq_true rfl) d_Pl_init_1 ?_
  refine lv_aload_n hx hb d_Pl_init_4 rfl (lv_at hl 0 rfl) ?_
  refine lv_bipush (v := (nI 6)) hx hb d_Pl_init_5 (by decide) ?_
  refine r_newa C0 hK hP hD hS hA (by decide) (Nat.le_of_ble_eq_true rfl) (Nat.le_of_ble_eq_true rfl) d_Pl_init_7 (fun q7 H hP hD hS => ?_)
  have hP : va_P D cls [(hp, .inr (2, [.null, .null, .null, .null, .null, .null, .int (nI 0)])), (q7, .inl (cI, 6, .inl (nA (fun _ => 0))))] H := hP
  have hD : va_D A [(hp, .inr (2, [.null, .null, .null, .null, .null, .null, .int (nI 0)])), (q7, .inl (cI, 6, .inl (nA (fun _ => 0))))] := hD
  refine W.widen (k := 1) (n := 6) (Nat.le_of_ble_eq_true rfl) (Nat.le_of_ble_eq_true rfl) ?_
  refine r_putF C0 hK hP hD hS 0 rfl rfl i_Pl t_Pl k_Pl n_Pl 0 (by decide) wt_54 (fun _ h => h) rfl hnm rfl rfl rfl (Nat.le_of_ble_eq_true rfl) d_Pl_init_9 (fun H locs hP hD hS => ?_)
  have hP : va_P D cls [(hp, .inr (2, [.ref q7, .null, .null, .null, .null, .null, .int (nI 0)])), (q7, .inl (cI, 6, .inl (nA (fun _ => 0))))] H := hP
  have hD : va_D A [(hp, .inr (2, [.ref q7, .null, .null, .null, .null, .null, .int (nI 0)])), (q7, .inl (cI, 6, .inl (nA (fun _ => 0))))] := hD
  refine lv_aload_n hx hb d_Pl_init_12 rfl (lv_at hl 0 rfl) ?_
  refine lv_bipush (v := (nI 6)) hx hb d_Pl_init_13 (by decide) ?_
  refine r_newa C0 hK hP hD hS hA (by decide) (Nat.le_of_ble_eq_true rfl) (Nat.le_of_ble_eq_true rfl) d_Pl_init_15 (fun q15 H hP hD hS => ?_)
  have hP : va_P D cls [(hp, .inr (2, [.ref q7, .null, .null, .null, .null, .null, .int (nI 0)])), (q7, .inl (cI, 6, .inl (nA (fun _ => 0)))), (q15, .inl (cI, 6, .inl (nA (fun _ => 0))))] H := hP
  have hD : va_D A [(hp, .inr (2, [.ref q7, .null, .null, .null, .null, .null, .int (nI 0)])), (q7, .inl (cI, 6, .inl (nA (fun _ => 0)))), (q15, .inl (cI, 6, .inl (nA (fun _ => 0))))] := hD
  refine W.widen (k := 2) (n := 12) (Nat.le_of_ble_eq_true rfl) (Nat.le_of_ble_eq_true rfl) ?_
  refine r_putF C0 hK hP hD hS 0 rfl rfl i_Pl t_Pl k_Pl n_Pl 1 (by decide) wt_59 (fun _ h => h) rfl hnm rfl rfl rfl (Nat.le_of_ble_eq_true rfl) d_Pl_init_17 (fun H locs hP hD hS => ?_)
  have hP : va_P D cls [(hp, .inr (2, [.ref q7, .ref q15, .null, .null, .null, .null, .int (nI 0)])), (q7, .inl (cI, 6, .inl (nA (fun _ => 0)))), (q15, .inl (cI, 6, .inl (nA (fun _ => 0))))] H := hP
  have hD : va_D A [(hp, .inr (2, [.ref q7, .ref q15, .null, .null, .null, .null, .int (nI 0)])), (q7, .inl (cI, 6, .inl (nA (fun _ => 0)))), (q15, .inl (cI, 6, .inl (nA (fun _ => 0))))] := hD
  refine lv_aload_n hx hb d_Pl_init_20 rfl (lv_at hl 0 rfl) ?_
  refine lv_bipush (v := (nI 56)) hx hb d_Pl_init_21 (by decide) ?_
  refine r_newa C0 hK hP hD hS hA (by decide) (Nat.le_of_ble_eq_true rfl) (Nat.le_of_ble_eq_true rfl) d_Pl_init_23 (fun q23 H hP hD hS => ?_)
  have hP : va_P D cls [(hp, .inr (2, [.ref q7, .ref q15, .null, .null, .null, .null, .int (nI 0)])), (q7, .inl (cI, 6, .inl (nA (fun _ => 0)))), (q15, .inl (cI, 6, .inl (nA (fun _ => 0)))), (q23, .inl (cI, 56, .inl (nA (fun _ => 0))))] H := hP
  have hD : va_D A [(hp, .inr (2, [.ref q7, .ref q15, .null, .null, .null, .null, .int (nI 0)])), (q7, .inl (cI, 6, .inl (nA (fun _ => 0)))), (q15, .inl (cI, 6, .inl (nA (fun _ => 0)))), (q23, .inl (cI, 56, .inl (nA (fun _ => 0))))] := hD
  refine W.widen (k := 3) (n := 68) (Nat.le_of_ble_eq_true rfl) (Nat.le_of_ble_eq_true rfl) ?_
  refine r_putF C0 hK hP hD hS 0 rfl rfl i_Pl t_Pl k_Pl n_Pl 2 (by decide) wt_65 (fun _ h => h) rfl hnm rfl rfl rfl (Nat.le_of_ble_eq_true rfl) d_Pl_init_25 (fun H locs hP hD hS => ?_)
  have hP : va_P D cls [(hp, .inr (2, [.ref q7, .ref q15, .ref q23, .null, .null, .null, .int (nI 0)])), (q7, .inl (cI, 6, .inl (nA (fun _ => 0)))), (q15, .inl (cI, 6, .inl (nA (fun _ => 0)))), (q23, .inl (cI, 56, .inl (nA (fun _ => 0))))] H := hP
  have hD : va_D A [(hp, .inr (2, [.ref q7, .ref q15, .ref q23, .null, .null, .null, .int (nI 0)])), (q7, .inl (cI, 6, .inl (nA (fun _ => 0)))), (q15, .inl (cI, 6, .inl (nA (fun _ => 0)))), (q23, .inl (cI, 56, .inl (nA (fun _ => 0))))] := hD
  refine lv_aload_n hx hb d_Pl_init_28 rfl (lv_at hl 0 rfl) ?_
  refine lv_bipush (v := (nI 56)) hx hb d_Pl_init_29 (by decide) ?_
  refine r_newa C0 hK hP hD hS hA (by decide) (Nat.le_of_ble_eq_true rfl) (Nat.le_of_ble_eq_true rfl) d_Pl_init_31 (fun q31 H hP hD hS => ?_)
  have hP : va_P D cls [(hp, .inr (2, [.ref q7, .ref q15, .ref q23, .null, .null, .null, .int (nI 0)])), (q7, .inl (cI, 6, .inl (nA (fun _ => 0)))), (q15, .inl (cI, 6, .inl (nA (fun _ => 0)))), (q23, .inl (cI, 56, .inl (nA (fun _ => 0)))), (q31, .inl (cI, 56, .inl (nA (fun _ => 0))))] H := hP
  have hD : va_D A [(hp, .inr (2, [.ref q7, .ref q15, .ref q23, .null, .null, .null, .int (nI 0)])), (q7, .inl (cI, 6, .inl (nA (fun _ => 0)))), (q15, .inl (cI, 6, .inl (nA (fun _ => 0)))), (q23, .inl (cI, 56, .inl (nA (fun _ => 0)))), (q31, .inl (cI, 56, .inl (nA (fun _ => 0))))] := hD
  refine W.widen (k := 4) (n := 124) (Nat.le_of_ble_eq_true rfl) (Nat.le_of_ble_eq_true rfl) ?_
  refine r_putF C0 hK hP hD hS 0 rfl rfl i_Pl t_Pl k_Pl n_Pl 3 (by decide) wt_67 (fun _ h => h) rfl hnm rfl rfl rfl (Nat.le_of_ble_eq_true rfl) d_Pl_init_33 (fun H locs hP hD hS => ?_)
  have hP : va_P D cls [(hp, .inr (2, [.ref q7, .ref q15, .ref q23, .ref q31, .null, .null, .int (nI 0)])), (q7, .inl (cI, 6, .inl (nA (fun _ => 0)))), (q15, .inl (cI, 6, .inl (nA (fun _ => 0)))), (q23, .inl (cI, 56, .inl (nA (fun _ => 0)))), (q31, .inl (cI, 56, .inl (nA (fun _ => 0))))] H := hP
  have hD : va_D A [(hp, .inr (2, [.ref q7, .ref q15, .ref q23, .ref q31, .null, .null, .int (nI 0)])), (q7, .inl (cI, 6, .inl (nA (fun _ => 0)))), (q15, .inl (cI, 6, .inl (nA (fun _ => 0)))), (q23, .inl (cI, 56, .inl (nA (fun _ => 0)))), (q31, .inl (cI, 56, .inl (nA (fun _ => 0))))] := hD
  refine lv_aload_n hx hb d_Pl_init_36 rfl (lv_at hl 0 rfl) ?_
  refine lv_sipush (v := (nI 384)) hx hb d_Pl_init_37 (by decide) ?_
  refine r_newa C0 hK hP hD hS hA (by decide) (Nat.le_of_ble_eq_true rfl) (Nat.le_of_ble_eq_true rfl) d_Pl_init_40 (fun q40 H hP hD hS => ?_)
  have hP : va_P D cls [(hp, .inr (2, [.ref q7, .ref q15, .ref q23, .ref q31, .null, .null, .int (nI 0)])), (q7, .inl (cI, 6, .inl (nA (fun _ => 0)))), (q15, .inl (cI, 6, .inl (nA (fun _ => 0)))), (q23, .inl (cI, 56, .inl (nA (fun _ => 0)))), (q31, .inl (cI, 56, .inl (nA (fun _ => 0)))), (q40, .inl (cI, 384, .inl (nA (fun _ => 0))))] H := hP
  have hD : va_D A [(hp, .inr (2, [.ref q7, .ref q15, .ref q23, .ref q31, .null, .null, .int (nI 0)])), (q7, .inl (cI, 6, .inl (nA (fun _ => 0)))), (q15, .inl (cI, 6, .inl (nA (fun _ => 0)))), (q23, .inl (cI, 56, .inl (nA (fun _ => 0)))), (q31, .inl (cI, 56, .inl (nA (fun _ => 0)))), (q40, .inl (cI, 384, .inl (nA (fun _ => 0))))] := hD
  refine W.widen (k := 5) (n := 508) (Nat.le_of_ble_eq_true rfl) (Nat.le_of_ble_eq_true rfl) ?_
  refine r_putF C0 hK hP hD hS 0 rfl rfl i_Pl t_Pl k_Pl n_Pl 4 (by decide) wt_69 (fun _ h => h) rfl hnm rfl rfl rfl (Nat.le_of_ble_eq_true rfl) d_Pl_init_42 (fun H locs hP hD hS => ?_)
  have hP : va_P D cls [(hp, .inr (2, [.ref q7, .ref q15, .ref q23, .ref q31, .ref q40, .null, .int (nI 0)])), (q7, .inl (cI, 6, .inl (nA (fun _ => 0)))), (q15, .inl (cI, 6, .inl (nA (fun _ => 0)))), (q23, .inl (cI, 56, .inl (nA (fun _ => 0)))), (q31, .inl (cI, 56, .inl (nA (fun _ => 0)))), (q40, .inl (cI, 384, .inl (nA (fun _ => 0))))] H := hP
  have hD : va_D A [(hp, .inr (2, [.ref q7, .ref q15, .ref q23, .ref q31, .ref q40, .null, .int (nI 0)])), (q7, .inl (cI, 6, .inl (nA (fun _ => 0)))), (q15, .inl (cI, 6, .inl (nA (fun _ => 0)))), (q23, .inl (cI, 56, .inl (nA (fun _ => 0)))), (q31, .inl (cI, 56, .inl (nA (fun _ => 0)))), (q40, .inl (cI, 384, .inl (nA (fun _ => 0))))] := hD
  refine lv_aload_n hx hb d_Pl_init_45 rfl (lv_at hl 0 rfl) ?_
  refine lv_sipush (v := (nI 384)) hx hb d_Pl_init_46 (by decide) ?_
  refine r_newa C0 hK hP hD hS hA (by decide) (Nat.le_of_ble_eq_true rfl) (Nat.le_of_ble_eq_true rfl) d_Pl_init_49 (fun q49 H hP hD hS => ?_)
  have hP : va_P D cls [(hp, .inr (2, [.ref q7, .ref q15, .ref q23, .ref q31, .ref q40, .null, .int (nI 0)])), (q7, .inl (cI, 6, .inl (nA (fun _ => 0)))), (q15, .inl (cI, 6, .inl (nA (fun _ => 0)))), (q23, .inl (cI, 56, .inl (nA (fun _ => 0)))), (q31, .inl (cI, 56, .inl (nA (fun _ => 0)))), (q40, .inl (cI, 384, .inl (nA (fun _ => 0)))), (q49, .inl (cI, 384, .inl (nA (fun _ => 0))))] H := hP
  have hD : va_D A [(hp, .inr (2, [.ref q7, .ref q15, .ref q23, .ref q31, .ref q40, .null, .int (nI 0)])), (q7, .inl (cI, 6, .inl (nA (fun _ => 0)))), (q15, .inl (cI, 6, .inl (nA (fun _ => 0)))), (q23, .inl (cI, 56, .inl (nA (fun _ => 0)))), (q31, .inl (cI, 56, .inl (nA (fun _ => 0)))), (q40, .inl (cI, 384, .inl (nA (fun _ => 0)))), (q49, .inl (cI, 384, .inl (nA (fun _ => 0))))] := hD
  refine W.widen (k := 6) (n := 892) (Nat.le_of_ble_eq_true rfl) (Nat.le_of_ble_eq_true rfl) ?_
  refine r_putF C0 hK hP hD hS 0 rfl rfl i_Pl t_Pl k_Pl n_Pl 5 (by decide) wt_70 (fun _ h => h) rfl hnm rfl rfl rfl (Nat.le_of_ble_eq_true rfl) d_Pl_init_51 (fun H locs hP hD hS => ?_)
  have hP : va_P D cls [(hp, .inr (2, [.ref q7, .ref q15, .ref q23, .ref q31, .ref q40, .ref q49, .int (nI 0)])), (q7, .inl (cI, 6, .inl (nA (fun _ => 0)))), (q15, .inl (cI, 6, .inl (nA (fun _ => 0)))), (q23, .inl (cI, 56, .inl (nA (fun _ => 0)))), (q31, .inl (cI, 56, .inl (nA (fun _ => 0)))), (q40, .inl (cI, 384, .inl (nA (fun _ => 0)))), (q49, .inl (cI, 384, .inl (nA (fun _ => 0))))] H := hP
  have hD : va_D A [(hp, .inr (2, [.ref q7, .ref q15, .ref q23, .ref q31, .ref q40, .ref q49, .int (nI 0)])), (q7, .inl (cI, 6, .inl (nA (fun _ => 0)))), (q15, .inl (cI, 6, .inl (nA (fun _ => 0)))), (q23, .inl (cI, 56, .inl (nA (fun _ => 0)))), (q31, .inl (cI, 56, .inl (nA (fun _ => 0)))), (q40, .inl (cI, 384, .inl (nA (fun _ => 0)))), (q49, .inl (cI, 384, .inl (nA (fun _ => 0))))] := hD
  exact ret_v C0 hr hlk hAe hS (q7, q15, q23, q31, q40, q49) trivial hP hD (Nat.le_of_ble_eq_true rfl) (Nat.le_of_ble_eq_true rfl) d_Pl_init_54
