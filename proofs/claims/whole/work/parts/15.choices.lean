def pc6 (w : Nat) : Nat := w % 2 + w / 2 % 2 + w / 4 % 2 + w / 8 % 2 + w / 16 % 2 + w / 32 % 2
def dif (d w : Nat) : Nat := d &&& (63 ^^^ w)
theorem dif_i : ∀ d, d < 64 → ∀ w, w < 64 → nI d &&& (nI w ^^^ (-1)) = nI (dif d w) := by decide +kernel
theorem dif_lt {d w : Nat} (h : d < 64) : dif d w < 64 := Nat.lt_of_le_of_lt Nat.and_le_left h
theorem dif_0 : ∀ d, d < 64 → ∀ w, w < 64 → dif d w = 0 → d &&& w = d := by decide +kernel
/-- places b, b + 1 .. below b + i of f, where w has a bit, hold v -/
def mkS (f : Nat → Int32) (b w : Nat) (v : Int32) (i : Nat) : Nat → Int32 := fun j => if b ≤ j ∧ j < b + i ∧ w.testBit (j - b) = true then v else f j
theorem mkS_0 {f : Nat → Int32} {b w : Nat} {v : Int32} : mkS f b w v 0 = f := by
  funext j
  unfold mkS
  rw [if_neg (by omega)]
theorem mkS_t {f : Nat → Int32} {b w i : Nat} {v : Int32} (h : w.testBit i = true) : upd (mkS f b w v i) (b + i) v = mkS f b w v (i + 1) := by
  funext j
  unfold upd mkS
  by_cases hj : j = b + i
  · subst hj
    rw [if_pos rfl, if_pos ⟨by omega, by omega, by rw [Nat.add_sub_cancel_left]; exact h⟩]
  · rw [if_neg hj]
    by_cases hk : b ≤ j ∧ j < b + i ∧ w.testBit (j - b) = true
    · rw [if_pos hk, if_pos ⟨hk.1, by omega, hk.2.2⟩]
    · rw [if_neg hk, if_neg (fun q => hk ⟨q.1, by omega, q.2.2⟩)]
theorem mkS_f {f : Nat → Int32} {b w i : Nat} {v : Int32} (h : w.testBit i = false) : mkS f b w v i = mkS f b w v (i + 1) := by
  funext j
  unfold mkS
  by_cases hk : b ≤ j ∧ j < b + i ∧ w.testBit (j - b) = true
  · rw [if_pos hk, if_pos ⟨hk.1, by omega, hk.2.2⟩]
  · rw [if_neg hk, if_neg]
    intro q
    by_cases hj : j = b + i
    · subst hj
      rw [Nat.add_sub_cancel_left, h] at q
      exact absurd q.2.2 (by decide)
    · exact hk ⟨q.1, by omega, q.2.2⟩
theorem mkS_z {f : Nat → Int32} {b i : Nat} {v : Int32} : mkS f b 0 v i = f := by
  funext j
  unfold mkS
  rw [if_neg (fun q => by simp at q)]
theorem up_id {g : Nat → Nat} {k x : Nat} (h : x = g k) : va_up g k x = g := by
  funext j
  unfold va_up
  split
  · next q => rw [q, h]
  · rfl
theorem bitc : ∀ w, w < 64 → nI (pc6 w) = (((((((((nI w) - ((((nI w).toUInt32 >>> ((nI 1).toUInt32 &&& Int32.toUInt32 31)).toInt32) &&& 1431655765)) &&& 858993459) + (((((nI w) - ((((nI w).toUInt32 >>> ((nI 1).toUInt32 &&& Int32.toUInt32 31)).toInt32) &&& 1431655765)).toUInt32 >>> ((nI 2).toUInt32 &&& Int32.toUInt32 31)).toInt32) &&& 858993459)) + ((((((nI w) - ((((nI w).toUInt32 >>> ((nI 1).toUInt32 &&& Int32.toUInt32 31)).toInt32) &&& 1431655765)) &&& 858993459) + (((((nI w) - ((((nI w).toUInt32 >>> ((nI 1).toUInt32 &&& Int32.toUInt32 31)).toInt32) &&& 1431655765)).toUInt32 >>> ((nI 2).toUInt32 &&& Int32.toUInt32 31)).toInt32) &&& 858993459)).toUInt32 >>> ((nI 4).toUInt32 &&& Int32.toUInt32 31)).toInt32)) &&& 252645135) + ((((((((nI w) - ((((nI w).toUInt32 >>> ((nI 1).toUInt32 &&& Int32.toUInt32 31)).toInt32) &&& 1431655765)) &&& 858993459) + (((((nI w) - ((((nI w).toUInt32 >>> ((nI 1).toUInt32 &&& Int32.toUInt32 31)).toInt32) &&& 1431655765)).toUInt32 >>> ((nI 2).toUInt32 &&& Int32.toUInt32 31)).toInt32) &&& 858993459)) + ((((((nI w) - ((((nI w).toUInt32 >>> ((nI 1).toUInt32 &&& Int32.toUInt32 31)).toInt32) &&& 1431655765)) &&& 858993459) + (((((nI w) - ((((nI w).toUInt32 >>> ((nI 1).toUInt32 &&& Int32.toUInt32 31)).toInt32) &&& 1431655765)).toUInt32 >>> ((nI 2).toUInt32 &&& Int32.toUInt32 31)).toInt32) &&& 858993459)).toUInt32 >>> ((nI 4).toUInt32 &&& Int32.toUInt32 31)).toInt32)) &&& 252645135).toUInt32 >>> ((nI 8).toUInt32 &&& Int32.toUInt32 31)).toInt32)) + (((((((((nI w) - ((((nI w).toUInt32 >>> ((nI 1).toUInt32 &&& Int32.toUInt32 31)).toInt32) &&& 1431655765)) &&& 858993459) + (((((nI w) - ((((nI w).toUInt32 >>> ((nI 1).toUInt32 &&& Int32.toUInt32 31)).toInt32) &&& 1431655765)).toUInt32 >>> ((nI 2).toUInt32 &&& Int32.toUInt32 31)).toInt32) &&& 858993459)) + ((((((nI w) - ((((nI w).toUInt32 >>> ((nI 1).toUInt32 &&& Int32.toUInt32 31)).toInt32) &&& 1431655765)) &&& 858993459) + (((((nI w) - ((((nI w).toUInt32 >>> ((nI 1).toUInt32 &&& Int32.toUInt32 31)).toInt32) &&& 1431655765)).toUInt32 >>> ((nI 2).toUInt32 &&& Int32.toUInt32 31)).toInt32) &&& 858993459)).toUInt32 >>> ((nI 4).toUInt32 &&& Int32.toUInt32 31)).toInt32)) &&& 252645135) + ((((((((nI w) - ((((nI w).toUInt32 >>> ((nI 1).toUInt32 &&& Int32.toUInt32 31)).toInt32) &&& 1431655765)) &&& 858993459) + (((((nI w) - ((((nI w).toUInt32 >>> ((nI 1).toUInt32 &&& Int32.toUInt32 31)).toInt32) &&& 1431655765)).toUInt32 >>> ((nI 2).toUInt32 &&& Int32.toUInt32 31)).toInt32) &&& 858993459)) + ((((((nI w) - ((((nI w).toUInt32 >>> ((nI 1).toUInt32 &&& Int32.toUInt32 31)).toInt32) &&& 1431655765)) &&& 858993459) + (((((nI w) - ((((nI w).toUInt32 >>> ((nI 1).toUInt32 &&& Int32.toUInt32 31)).toInt32) &&& 1431655765)).toUInt32 >>> ((nI 2).toUInt32 &&& Int32.toUInt32 31)).toInt32) &&& 858993459)).toUInt32 >>> ((nI 4).toUInt32 &&& Int32.toUInt32 31)).toInt32)) &&& 252645135).toUInt32 >>> ((nI 8).toUInt32 &&& Int32.toUInt32 31)).toInt32)).toUInt32 >>> ((nI 16).toUInt32 &&& Int32.toUInt32 31)).toInt32)) &&& (nI 63)) := by decide +kernel
set_option maxHeartbeats 4000000 in
set_option maxRecDepth 100000 in
theorem c_JI_bitCount (l : Launch) (D : va_G) (cI : ClassId) (sz : Nat) (w : Nat) (hw : w < 64) : MetI l y_JI_bitCount b_JI_bitCount 1 (some .int) { frames := 0, cells := 0, slots := 0, locals := 0 } D cI [] sz [] [.int (nI w)] (fun (r : Int32) (u : Unit) => r = nI (pc6 w)) (fun u : Unit => []) := by
  refine enter (by decide) (Nat.le_of_ble_eq_true rfl) ?_
  intro p e s m below meth c A ls C0 hr hlk hnm hK hsz hA hAe hP hD hS hl
  have hx := C0.1
  have hb := C0.2.1
  have hl : lv_has ls 1 [(0, .int (nI w))] := hl
  refine lv_iload_n hx hb d_JI_bitCount_0 rfl (lv_at hl 0 rfl) ?_
  refine lv_iload_n hx hb d_JI_bitCount_1 rfl (lv_at hl 0 rfl) ?_
  refine lv_iconst (v := (nI 1)) hx hb d_JI_bitCount_2 (by decide) ?_
  refine lv_iushr hx hb d_JI_bitCount_3 rfl ?_
  refine lv_ldcw (v := 1431655765) hx hb C0.2.2.2.1 (C0.2.2.2.2 _ wt_399) d_JI_bitCount_4 ?_
  refine lv_iand hx hb d_JI_bitCount_7 ?_
  refine lv_isub hx hb d_JI_bitCount_8 ?_
  refine lv_istore_n (lv' := [(0, .int ((nI w) - ((((nI w).toUInt32 >>> ((nI 1).toUInt32 &&& Int32.toUInt32 31)).toInt32) &&& 1431655765)))]) hx hb d_JI_bitCount_9 rfl hl (by decide) rfl (fun ls hl => ?_)
  refine lv_iload_n hx hb d_JI_bitCount_10 rfl (lv_at hl 0 rfl) ?_
  refine lv_ldcw (v := 858993459) hx hb C0.2.2.2.1 (C0.2.2.2.2 _ wt_400) d_JI_bitCount_11 ?_
  refine lv_iand hx hb d_JI_bitCount_14 ?_
  refine lv_iload_n hx hb d_JI_bitCount_15 rfl (lv_at hl 0 rfl) ?_
  refine lv_iconst (v := (nI 2)) hx hb d_JI_bitCount_16 (by decide) ?_
  refine lv_iushr hx hb d_JI_bitCount_17 rfl ?_
  refine lv_ldcw (v := 858993459) hx hb C0.2.2.2.1 (C0.2.2.2.2 _ wt_400) d_JI_bitCount_18 ?_
  refine lv_iand hx hb d_JI_bitCount_21 ?_
  refine lv_iadd hx hb d_JI_bitCount_22 ?_
  refine lv_istore_n (lv' := [(0, .int ((((nI w) - ((((nI w).toUInt32 >>> ((nI 1).toUInt32 &&& Int32.toUInt32 31)).toInt32) &&& 1431655765)) &&& 858993459) + (((((nI w) - ((((nI w).toUInt32 >>> ((nI 1).toUInt32 &&& Int32.toUInt32 31)).toInt32) &&& 1431655765)).toUInt32 >>> ((nI 2).toUInt32 &&& Int32.toUInt32 31)).toInt32) &&& 858993459)))]) hx hb d_JI_bitCount_23 rfl hl (by decide) rfl (fun ls hl => ?_)
  refine lv_iload_n hx hb d_JI_bitCount_24 rfl (lv_at hl 0 rfl) ?_
  refine lv_iload_n hx hb d_JI_bitCount_25 rfl (lv_at hl 0 rfl) ?_
  refine lv_iconst (v := (nI 4)) hx hb d_JI_bitCount_26 (by decide) ?_
  refine lv_iushr hx hb d_JI_bitCount_27 rfl ?_
  refine lv_iadd hx hb d_JI_bitCount_28 ?_
  refine lv_ldcw (v := 252645135) hx hb C0.2.2.2.1 (C0.2.2.2.2 _ wt_401) d_JI_bitCount_29 ?_
  refine lv_iand hx hb d_JI_bitCount_32 ?_
  refine lv_istore_n (lv' := [(0, .int ((((((nI w) - ((((nI w).toUInt32 >>> ((nI 1).toUInt32 &&& Int32.toUInt32 31)).toInt32) &&& 1431655765)) &&& 858993459) + (((((nI w) - ((((nI w).toUInt32 >>> ((nI 1).toUInt32 &&& Int32.toUInt32 31)).toInt32) &&& 1431655765)).toUInt32 >>> ((nI 2).toUInt32 &&& Int32.toUInt32 31)).toInt32) &&& 858993459)) + ((((((nI w) - ((((nI w).toUInt32 >>> ((nI 1).toUInt32 &&& Int32.toUInt32 31)).toInt32) &&& 1431655765)) &&& 858993459) + (((((nI w) - ((((nI w).toUInt32 >>> ((nI 1).toUInt32 &&& Int32.toUInt32 31)).toInt32) &&& 1431655765)).toUInt32 >>> ((nI 2).toUInt32 &&& Int32.toUInt32 31)).toInt32) &&& 858993459)).toUInt32 >>> ((nI 4).toUInt32 &&& Int32.toUInt32 31)).toInt32)) &&& 252645135))]) hx hb d_JI_bitCount_33 rfl hl (by decide) rfl (fun ls hl => ?_)
  refine lv_iload_n hx hb d_JI_bitCount_34 rfl (lv_at hl 0 rfl) ?_
  refine lv_iload_n hx hb d_JI_bitCount_35 rfl (lv_at hl 0 rfl) ?_
  refine lv_bipush (v := (nI 8)) hx hb d_JI_bitCount_36 (by decide) ?_
  refine lv_iushr hx hb d_JI_bitCount_38 rfl ?_
  refine lv_iadd hx hb d_JI_bitCount_39 ?_
  refine lv_istore_n (lv' := [(0, .int (((((((nI w) - ((((nI w).toUInt32 >>> ((nI 1).toUInt32 &&& Int32.toUInt32 31)).toInt32) &&& 1431655765)) &&& 858993459) + (((((nI w) - ((((nI w).toUInt32 >>> ((nI 1).toUInt32 &&& Int32.toUInt32 31)).toInt32) &&& 1431655765)).toUInt32 >>> ((nI 2).toUInt32 &&& Int32.toUInt32 31)).toInt32) &&& 858993459)) + ((((((nI w) - ((((nI w).toUInt32 >>> ((nI 1).toUInt32 &&& Int32.toUInt32 31)).toInt32) &&& 1431655765)) &&& 858993459) + (((((nI w) - ((((nI w).toUInt32 >>> ((nI 1).toUInt32 &&& Int32.toUInt32 31)).toInt32) &&& 1431655765)).toUInt32 >>> ((nI 2).toUInt32 &&& Int32.toUInt32 31)).toInt32) &&& 858993459)).toUInt32 >>> ((nI 4).toUInt32 &&& Int32.toUInt32 31)).toInt32)) &&& 252645135) + ((((((((nI w) - ((((nI w).toUInt32 >>> ((nI 1).toUInt32 &&& Int32.toUInt32 31)).toInt32) &&& 1431655765)) &&& 858993459) + (((((nI w) - ((((nI w).toUInt32 >>> ((nI 1).toUInt32 &&& Int32.toUInt32 31)).toInt32) &&& 1431655765)).toUInt32 >>> ((nI 2).toUInt32 &&& Int32.toUInt32 31)).toInt32) &&& 858993459)) + ((((((nI w) - ((((nI w).toUInt32 >>> ((nI 1).toUInt32 &&& Int32.toUInt32 31)).toInt32) &&& 1431655765)) &&& 858993459) + (((((nI w) - ((((nI w).toUInt32 >>> ((nI 1).toUInt32 &&& Int32.toUInt32 31)).toInt32) &&& 1431655765)).toUInt32 >>> ((nI 2).toUInt32 &&& Int32.toUInt32 31)).toInt32) &&& 858993459)).toUInt32 >>> ((nI 4).toUInt32 &&& Int32.toUInt32 31)).toInt32)) &&& 252645135).toUInt32 >>> ((nI 8).toUInt32 &&& Int32.toUInt32 31)).toInt32)))]) hx hb d_JI_bitCount_40 rfl hl (by decide) rfl (fun ls hl => ?_)
  refine lv_iload_n hx hb d_JI_bitCount_41 rfl (lv_at hl 0 rfl) ?_
  refine lv_iload_n hx hb d_JI_bitCount_42 rfl (lv_at hl 0 rfl) ?_
  refine lv_bipush (v := (nI 16)) hx hb d_JI_bitCount_43 (by decide) ?_
  refine lv_iushr hx hb d_JI_bitCount_45 rfl ?_
  refine lv_iadd hx hb d_JI_bitCount_46 ?_
  refine lv_istore_n (lv' := [(0, .int ((((((((nI w) - ((((nI w).toUInt32 >>> ((nI 1).toUInt32 &&& Int32.toUInt32 31)).toInt32) &&& 1431655765)) &&& 858993459) + (((((nI w) - ((((nI w).toUInt32 >>> ((nI 1).toUInt32 &&& Int32.toUInt32 31)).toInt32) &&& 1431655765)).toUInt32 >>> ((nI 2).toUInt32 &&& Int32.toUInt32 31)).toInt32) &&& 858993459)) + ((((((nI w) - ((((nI w).toUInt32 >>> ((nI 1).toUInt32 &&& Int32.toUInt32 31)).toInt32) &&& 1431655765)) &&& 858993459) + (((((nI w) - ((((nI w).toUInt32 >>> ((nI 1).toUInt32 &&& Int32.toUInt32 31)).toInt32) &&& 1431655765)).toUInt32 >>> ((nI 2).toUInt32 &&& Int32.toUInt32 31)).toInt32) &&& 858993459)).toUInt32 >>> ((nI 4).toUInt32 &&& Int32.toUInt32 31)).toInt32)) &&& 252645135) + ((((((((nI w) - ((((nI w).toUInt32 >>> ((nI 1).toUInt32 &&& Int32.toUInt32 31)).toInt32) &&& 1431655765)) &&& 858993459) + (((((nI w) - ((((nI w).toUInt32 >>> ((nI 1).toUInt32 &&& Int32.toUInt32 31)).toInt32) &&& 1431655765)).toUInt32 >>> ((nI 2).toUInt32 &&& Int32.toUInt32 31)).toInt32) &&& 858993459)) + ((((((nI w) - ((((nI w).toUInt32 >>> ((nI 1).toUInt32 &&& Int32.toUInt32 31)).toInt32) &&& 1431655765)) &&& 858993459) + (((((nI w) - ((((nI w).toUInt32 >>> ((nI 1).toUInt32 &&& Int32.toUInt32 31)).toInt32) &&& 1431655765)).toUInt32 >>> ((nI 2).toUInt32 &&& Int32.toUInt32 31)).toInt32) &&& 858993459)).toUInt32 >>> ((nI 4).toUInt32 &&& Int32.toUInt32 31)).toInt32)) &&& 252645135).toUInt32 >>> ((nI 8).toUInt32 &&& Int32.toUInt32 31)).toInt32)) + (((((((((nI w) - ((((nI w).toUInt32 >>> ((nI 1).toUInt32 &&& Int32.toUInt32 31)).toInt32) &&& 1431655765)) &&& 858993459) + (((((nI w) - ((((nI w).toUInt32 >>> ((nI 1).toUInt32 &&& Int32.toUInt32 31)).toInt32) &&& 1431655765)).toUInt32 >>> ((nI 2).toUInt32 &&& Int32.toUInt32 31)).toInt32) &&& 858993459)) + ((((((nI w) - ((((nI w).toUInt32 >>> ((nI 1).toUInt32 &&& Int32.toUInt32 31)).toInt32) &&& 1431655765)) &&& 858993459) + (((((nI w) - ((((nI w).toUInt32 >>> ((nI 1).toUInt32 &&& Int32.toUInt32 31)).toInt32) &&& 1431655765)).toUInt32 >>> ((nI 2).toUInt32 &&& Int32.toUInt32 31)).toInt32) &&& 858993459)).toUInt32 >>> ((nI 4).toUInt32 &&& Int32.toUInt32 31)).toInt32)) &&& 252645135) + ((((((((nI w) - ((((nI w).toUInt32 >>> ((nI 1).toUInt32 &&& Int32.toUInt32 31)).toInt32) &&& 1431655765)) &&& 858993459) + (((((nI w) - ((((nI w).toUInt32 >>> ((nI 1).toUInt32 &&& Int32.toUInt32 31)).toInt32) &&& 1431655765)).toUInt32 >>> ((nI 2).toUInt32 &&& Int32.toUInt32 31)).toInt32) &&& 858993459)) + ((((((nI w) - ((((nI w).toUInt32 >>> ((nI 1).toUInt32 &&& Int32.toUInt32 31)).toInt32) &&& 1431655765)) &&& 858993459) + (((((nI w) - ((((nI w).toUInt32 >>> ((nI 1).toUInt32 &&& Int32.toUInt32 31)).toInt32) &&& 1431655765)).toUInt32 >>> ((nI 2).toUInt32 &&& Int32.toUInt32 31)).toInt32) &&& 858993459)).toUInt32 >>> ((nI 4).toUInt32 &&& Int32.toUInt32 31)).toInt32)) &&& 252645135).toUInt32 >>> ((nI 8).toUInt32 &&& Int32.toUInt32 31)).toInt32)).toUInt32 >>> ((nI 16).toUInt32 &&& Int32.toUInt32 31)).toInt32)))]) hx hb d_JI_bitCount_47 rfl hl (by decide) rfl (fun ls hl => ?_)
  refine lv_iload_n hx hb d_JI_bitCount_48 rfl (lv_at hl 0 rfl) ?_
  refine lv_bipush (v := (nI 63)) hx hb d_JI_bitCount_49 (by decide) ?_
  refine lv_iand hx hb d_JI_bitCount_51 ?_
  exact ret_i C0 hr hlk hAe hS () (bitc w hw).symm hP hD rfl (Nat.le_of_ble_eq_true rfl) (Nat.le_of_ble_eq_true rfl) d_JI_bitCount_52
set_option maxHeartbeats 4000000 in
set_option maxRecDepth 100000 in
theorem c_Ch_init (l : Launch) (D : va_G) (cI : ClassId) (sz : Nat) (hc : Nat)  : MetV l y_Ch_init b_Ch_init 1 { frames := 1, cells := 3, slots := 78, locals := 12 } D cI [] sz [(hc, .inr (1, [.null, .null, .null]))] [.ref hc] (fun (u : Nat × Nat × Nat) => True) (fun u : Nat × Nat × Nat => [(hc, .inr (1, [.ref u.1, .ref u.2.1, .ref u.2.2])), (u.1, .inl (cI, 6, .inl (nA (fun _ => 0)))), (u.2.1, .inl (cI, 36, .inl (nA (fun _ => 0)))), (u.2.2, .inl (cI, 36, .inl (nA (fun _ => 0))))]) := by
  refine enter (by decide) (Nat.le_of_ble_eq_true rfl) ?_
  intro p e s m below meth c A ls C0 hr hlk hnm hK hsz hA hAe hP hD hS hl
  have hx := C0.1
  have hb := C0.2.1
  have hl : lv_has ls 1 [(0, .ref hc)] := hl
  refine lv_aload_n hx hb d_Ch_init_0 rfl (lv_at hl 0 rfl) ?_
  refine r_obj C0 wt_30 hl.1 (Nat.le_of_ble_eq_true rfl) (Nat.le_of_ble_eq_true rfl) d_Ch_init_1 ?_
  refine lv_aload_n hx hb d_Ch_init_4 rfl (lv_at hl 0 rfl) ?_
  refine lv_bipush (v := (nI 6)) hx hb d_Ch_init_5 (by decide) ?_
  refine r_newa C0 hK hP hD hS hA (by decide) (Nat.le_of_ble_eq_true rfl) (Nat.le_of_ble_eq_true rfl) d_Ch_init_7 (fun q7 H hP hD hS => ?_)
  have hP : va_P D cls [(hc, .inr (1, [.null, .null, .null])), (q7, .inl (cI, 6, .inl (nA (fun _ => 0))))] H := hP
  have hD : va_D A [(hc, .inr (1, [.null, .null, .null])), (q7, .inl (cI, 6, .inl (nA (fun _ => 0))))] := hD
  refine W.widen (k := 1) (n := 6) (Nat.le_of_ble_eq_true rfl) (Nat.le_of_ble_eq_true rfl) ?_
  refine r_putF C0 hK hP hD hS 0 rfl rfl i_Ch t_Ch k_Ch n_Ch 0 (by decide) wt_31 (fun _ h => h) rfl hnm rfl rfl rfl (Nat.le_of_ble_eq_true rfl) d_Ch_init_9 (fun H locs hP hD hS => ?_)
  have hP : va_P D cls [(hc, .inr (1, [.ref q7, .null, .null])), (q7, .inl (cI, 6, .inl (nA (fun _ => 0))))] H := hP
  have hD : va_D A [(hc, .inr (1, [.ref q7, .null, .null])), (q7, .inl (cI, 6, .inl (nA (fun _ => 0))))] := hD
  refine lv_aload_n hx hb d_Ch_init_12 rfl (lv_at hl 0 rfl) ?_
  refine lv_bipush (v := (nI 36)) hx hb d_Ch_init_13 (by decide) ?_
  refine r_newa C0 hK hP hD hS hA (by decide) (Nat.le_of_ble_eq_true rfl) (Nat.le_of_ble_eq_true rfl) d_Ch_init_15 (fun q15 H hP hD hS => ?_)
  have hP : va_P D cls [(hc, .inr (1, [.ref q7, .null, .null])), (q7, .inl (cI, 6, .inl (nA (fun _ => 0)))), (q15, .inl (cI, 36, .inl (nA (fun _ => 0))))] H := hP
  have hD : va_D A [(hc, .inr (1, [.ref q7, .null, .null])), (q7, .inl (cI, 6, .inl (nA (fun _ => 0)))), (q15, .inl (cI, 36, .inl (nA (fun _ => 0))))] := hD
  refine W.widen (k := 2) (n := 42) (Nat.le_of_ble_eq_true rfl) (Nat.le_of_ble_eq_true rfl) ?_
  refine r_putF C0 hK hP hD hS 0 rfl rfl i_Ch t_Ch k_Ch n_Ch 1 (by decide) wt_33 (fun _ h => h) rfl hnm rfl rfl rfl (Nat.le_of_ble_eq_true rfl) d_Ch_init_17 (fun H locs hP hD hS => ?_)
  have hP : va_P D cls [(hc, .inr (1, [.ref q7, .ref q15, .null])), (q7, .inl (cI, 6, .inl (nA (fun _ => 0)))), (q15, .inl (cI, 36, .inl (nA (fun _ => 0))))] H := hP
  have hD : va_D A [(hc, .inr (1, [.ref q7, .ref q15, .null])), (q7, .inl (cI, 6, .inl (nA (fun _ => 0)))), (q15, .inl (cI, 36, .inl (nA (fun _ => 0))))] := hD
  refine lv_aload_n hx hb d_Ch_init_20 rfl (lv_at hl 0 rfl) ?_
  refine lv_bipush (v := (nI 36)) hx hb d_Ch_init_21 (by decide) ?_
  refine r_newa C0 hK hP hD hS hA (by decide) (Nat.le_of_ble_eq_true rfl) (Nat.le_of_ble_eq_true rfl) d_Ch_init_23 (fun q23 H hP hD hS => ?_)
  have hP : va_P D cls [(hc, .inr (1, [.ref q7, .ref q15, .null])), (q7, .inl (cI, 6, .inl (nA (fun _ => 0)))), (q15, .inl (cI, 36, .inl (nA (fun _ => 0)))), (q23, .inl (cI, 36, .inl (nA (fun _ => 0))))] H := hP
  have hD : va_D A [(hc, .inr (1, [.ref q7, .ref q15, .null])), (q7, .inl (cI, 6, .inl (nA (fun _ => 0)))), (q15, .inl (cI, 36, .inl (nA (fun _ => 0)))), (q23, .inl (cI, 36, .inl (nA (fun _ => 0))))] := hD
  refine W.widen (k := 3) (n := 78) (Nat.le_of_ble_eq_true rfl) (Nat.le_of_ble_eq_true rfl) ?_
  refine r_putF C0 hK hP hD hS 0 rfl rfl i_Ch t_Ch k_Ch n_Ch 2 (by decide) wt_35 (fun _ h => h) rfl hnm rfl rfl rfl (Nat.le_of_ble_eq_true rfl) d_Ch_init_25 (fun H locs hP hD hS => ?_)
  have hP : va_P D cls [(hc, .inr (1, [.ref q7, .ref q15, .ref q23])), (q7, .inl (cI, 6, .inl (nA (fun _ => 0)))), (q15, .inl (cI, 36, .inl (nA (fun _ => 0)))), (q23, .inl (cI, 36, .inl (nA (fun _ => 0))))] H := hP
  have hD : va_D A [(hc, .inr (1, [.ref q7, .ref q15, .ref q23])), (q7, .inl (cI, 6, .inl (nA (fun _ => 0)))), (q15, .inl (cI, 36, .inl (nA (fun _ => 0)))), (q23, .inl (cI, 36, .inl (nA (fun _ => 0))))] := hD
  exact ret_v C0 hr hlk hAe hS (q7, q15, q23) trivial hP hD (Nat.le_of_ble_eq_true rfl) (Nat.le_of_ble_eq_true rfl) d_Ch_init_28
set_option maxHeartbeats 4000000 in
set_option maxRecDepth 100000 in
theorem c_Ch_keepOnly (l : Launch) (D : va_G) (cI : ClassId) (sz : Nat) (hc : Nat) (cd : Nat) (cr : Nat) (cn : Nat) (dm : Nat → Nat) (rs : Nat → Int32) (rn : Nat → Int32) (k : Nat) (w : Nat) (z : Int32) (y : Int32) (hk : k < 6) (hw : w < 64) (hdm : ∀ i, dm i < 64) : MetI l y_Ch_keepOnly b_Ch_keepOnly 7 (some .int) { frames := 1, cells := 0, slots := 0, locals := 21 } D cI [] sz [(hc, .inr (1, [.ref cd, .ref cr, .ref cn])), (cd, .inl (cI, 6, .inl (nA dm))), (cr, .inl (cI, 36, .inl rs)), (cn, .inl (cI, 36, .inl rn))] [.ref hc, .int (nI k), .int (nI w), .int z, .int y] (fun (r : Int32) (u : (Nat → Nat) × (Nat → Int32) × (Nat → Int32)) => r = nI (pc6 (dif (dm k) w)) ∧ u = (va_up dm k (dm k &&& w), mkS rs (k * 6) (dif (dm k) w) z 6, mkS rn (k * 6) (dif (dm k) w) y 6)) (fun u : (Nat → Nat) × (Nat → Int32) × (Nat → Int32) => [(hc, .inr (1, [.ref cd, .ref cr, .ref cn])), (cd, .inl (cI, 6, .inl (nA u.1))), (cr, .inl (cI, 36, .inl u.2.1)), (cn, .inl (cI, 36, .inl u.2.2))]) := by
  refine enter (by decide) (Nat.le_of_ble_eq_true rfl) ?_
  intro p e s m below meth c A ls C0 hr hlk hnm hK hsz hA hAe hP hD hS hl
  have hx := C0.1
  have hb := C0.2.1
  have hl : lv_has ls 7 [(0, .ref hc), (1, .int (nI k)), (2, .int (nI w)), (3, .int z), (4, .int y)] := hl
  refine lv_iload_n hx hb d_Ch_keepOnly_0 rfl (lv_at hl 1 rfl) ?_
  refine z_lt (tgt := 10) hx hb (by omega) d_Ch_keepOnly_1 (by decide) ?_
  refine lv_iload_n hx hb d_Ch_keepOnly_4 rfl (lv_at hl 1 rfl) ?_
  refine lv_bipush (v := (nI 6)) hx hb d_Ch_keepOnly_5 (by decide) ?_
  refine b_lt (tgt := 12) hx hb (by omega) (by decide) d_Ch_keepOnly_7 (by decide) (fun c_7 => ?_) (fun c_7 => ?_)
  · refine lv_aload_n hx hb d_Ch_keepOnly_12 rfl (lv_at hl 0 rfl) ?_
    refine r_get C0 hK hP 0 rfl rfl i_Ch 0 (by decide) wt_31 (fun _ h => h) rfl d_Ch_keepOnly_13 ?_
    refine lv_iload_n hx hb d_Ch_keepOnly_16 rfl (lv_at hl 1 rfl) ?_
    refine r_ald C0 hK hP 1 rfl (by omega) (by decide) d_Ch_keepOnly_17 ?_
    refine t_eq (y := (nI (dm k))) rfl ?_
    refine lv_iload_n hx hb d_Ch_keepOnly_18 rfl (lv_at hl 2 rfl) ?_
    refine lv_iconst (v := (-1)) hx hb d_Ch_keepOnly_19 (by decide) ?_
    refine lv_ixor hx hb d_Ch_keepOnly_20 ?_
    refine lv_iand hx hb d_Ch_keepOnly_21 ?_
    refine t_eq (y := (nI (dif (dm k) w))) (dif_i _ (hdm k) _ hw) ?_
    refine lv_istore (lv' := [(5, .int (nI (dif (dm k) w))), (0, .ref hc), (1, .int (nI k)), (2, .int (nI w)), (3, .int z), (4, .int y)]) hx hb d_Ch_keepOnly_22 hl (by decide) rfl (fun ls hl => ?_)
    have hG : dif (dm k) w < 64 := dif_lt (hdm k)
    refine lv_iload hx hb d_Ch_keepOnly_24 (lv_at hl 0 rfl) ?_
    refine z_ne (tgt := 31) hx hb (by omega) d_Ch_keepOnly_26 (by decide) (fun c_26 => ?_) (fun c_26 => ?_)
    · refine lv_iconst (v := (nI 0)) hx hb d_Ch_keepOnly_31 (by decide) ?_
      refine lv_istore (lv' := [(6, .int (nI 0)), (5, .int (nI (dif (dm k) w))), (0, .ref hc), (1, .int (nI k)), (2, .int (nI w)), (3, .int z), (4, .int y)]) hx hb d_Ch_keepOnly_32 hl (by decide) rfl (fun ls hl => ?_)
      rw [show rs = mkS rs (k * 6) (dif (dm k) w) z 0 from mkS_0.symm] at hP hD
      rw [show rn = mkS rn (k * 6) (dif (dm k) w) y 0 from mkS_0.symm] at hP hD
      have L34 : ∀ (fuel34 : Nat) (i : Nat), (i ≤ 6) → (6 < i + fuel34) → ∀ (H : Heap) (locs : List Loc) (ls : Array Slot), va_P D cls [(hc, .inr (1, [.ref cd, .ref cr, .ref cn])), (cd, .inl (cI, 6, .inl (nA dm))), (cr, .inl (cI, 36, .inl (mkS rs (k * 6) (dif (dm k) w) z i))), (cn, .inl (cI, 36, .inl (mkS rn (k * 6) (dif (dm k) w) y i)))] H → va_D A [(hc, .inr (1, [.ref cd, .ref cr, .ref cn])), (cd, .inl (cI, 6, .inl (nA dm))), (cr, .inl (cI, 36, .inl (mkS rs (k * 6) (dif (dm k) w) z i))), (cn, .inl (cI, 36, .inl (mkS rn (k * 6) (dif (dm k) w) y i)))] → va_S A s.heap H locs → lv_has ls 7 [(6, .int (nI i)), (5, .int (nI (dif (dm k) w))), (0, .ref hc), (1, .int (nI k)), (2, .int (nI w)), (3, .int z), (4, .int y)] → W p l e { frames := 1, cells := 0, slots := 0, locals := 21 } s m ([.ref hc, .int (nI k), .int (nI w), .int z, .int y] : List Value).toArray below meth c H locs 0 0 (MQ below (pstI D [(hc, .inr (1, [.ref cd, .ref cr, .ref cn])), (cd, .inl (cI, 6, .inl (nA dm))), (cr, .inl (cI, 36, .inl rs)), (cn, .inl (cI, 36, .inl rn))] sz (fun (r : Int32) (u : (Nat → Nat) × (Nat → Int32) × (Nat → Int32)) => r = nI (pc6 (dif (dm k) w)) ∧ u = (va_up dm k (dm k &&& w), mkS rs (k * 6) (dif (dm k) w) z 6, mkS rn (k * 6) (dif (dm k) w) y 6)) (fun u : (Nat → Nat) × (Nat → Int32) × (Nat → Int32) => [(hc, .inr (1, [.ref cd, .ref cr, .ref cn])), (cd, .inl (cI, 6, .inl (nA u.1))), (cr, .inl (cI, 36, .inl u.2.1)), (cn, .inl (cI, 36, .inl u.2.2))])) ([.ref hc, .int (nI k), .int (nI w), .int z, .int y] : List Value).toArray s 0 0 A) (F0 m 34 ls []) := by
        intro fuel34
        induction fuel34 with
        | zero => intros; omega
        | succ fuel34 ih34 =>
          intro i hi hfu H locs ls hP hD hS hl
          refine lv_iload hx hb d_Ch_keepOnly_34 (lv_at hl 0 rfl) ?_
          refine lv_bipush (v := (nI 6)) hx hb d_Ch_keepOnly_36 (by decide) ?_
          refine b_ge (tgt := 84) hx hb (by omega) (by decide) d_Ch_keepOnly_38 (by decide) (fun c_38 => ?_) (fun c_38 => ?_)
          · obtain rfl : i = 6 := (by omega)
            refine lv_aload_n hx hb d_Ch_keepOnly_84 rfl (lv_at hl 2 rfl) ?_
            refine r_get C0 hK hP 0 rfl rfl i_Ch 0 (by decide) wt_31 (fun _ h => h) rfl d_Ch_keepOnly_85 ?_
            refine lv_iload_n hx hb d_Ch_keepOnly_88 rfl (lv_at hl 3 rfl) ?_
            refine lv_dup2_11 hx hb d_Ch_keepOnly_89 rfl rfl ?_
            refine r_ald C0 hK hP 1 rfl (by omega) (by decide) d_Ch_keepOnly_90 ?_
            refine t_eq (y := (nI (dm k))) rfl ?_
            refine lv_iload_n hx hb d_Ch_keepOnly_91 rfl (lv_at hl 4 rfl) ?_
            refine lv_iand hx hb d_Ch_keepOnly_92 ?_
            refine t_eq (y := (nI ((dm k) &&& w))) (m_and _ _) ?_
            refine r_astN C0 hK hP hD hS 1 rfl (by omega) (by decide) d_Ch_keepOnly_93 (fun H locs hP hD hS => ?_)
            have hP : va_P D cls [(hc, .inr (1, [.ref cd, .ref cr, .ref cn])), (cd, .inl (cI, 6, .inl (nA (va_up dm k ((dm k) &&& w))))), (cr, .inl (cI, 36, .inl (mkS rs (k * 6) (dif (dm k) w) z 6))), (cn, .inl (cI, 36, .inl (mkS rn (k * 6) (dif (dm k) w) y 6)))] H := hP
            have hD : va_D A [(hc, .inr (1, [.ref cd, .ref cr, .ref cn])), (cd, .inl (cI, 6, .inl (nA (va_up dm k ((dm k) &&& w))))), (cr, .inl (cI, 36, .inl (mkS rs (k * 6) (dif (dm k) w) z 6))), (cn, .inl (cI, 36, .inl (mkS rn (k * 6) (dif (dm k) w) y 6)))] := hD
            refine lv_iload hx hb d_Ch_keepOnly_94 (lv_at hl 1 rfl) ?_
            refine call_i (rm := { frames := 0, cells := 0, slots := 0, locals := 0 }) hS hP hD hA (spl_mk (wc := []) (wr := [(hc, .inr (1, [.ref cd, .ref cr, .ref cn])), (cd, .inl (cI, 6, .inl (nA (va_up dm k ((dm k) &&& w))))), (cr, .inl (cI, 36, .inl (mkS rs (k * 6) (dif (dm k) w) z 6))), (cn, .inl (cI, 36, .inl (mkS rn (k * 6) (dif (dm k) w) y 6)))]) [] [0, 1, 2, 3] rfl rfl (by decide)) (run_s (n := 1) (As := [.int (nI (dif (dm k) w))]) (rest := []) C0 (hK.sub [] rfl) (c_JI_bitCount l D cI H.size (dif (dm k) w) (by omega)) wt_398 wt_14 wt_396 wt_397 (by decide +kernel) ⟨Nat.le_of_ble_eq_true rfl, Nat.le_of_ble_eq_true rfl⟩ rfl hl.1 rfl (Nat.le_of_ble_eq_true rfl) d_Ch_keepOnly_96 ⟨Nat.le_of_ble_eq_true rfl, Nat.le_of_ble_eq_true rfl⟩) (fun r_96 _u96 H locs hw_96 hP hD hS => ?_)
            have hP : va_P D cls [(hc, .inr (1, [.ref cd, .ref cr, .ref cn])), (cd, .inl (cI, 6, .inl (nA (va_up dm k ((dm k) &&& w))))), (cr, .inl (cI, 36, .inl (mkS rs (k * 6) (dif (dm k) w) z 6))), (cn, .inl (cI, 36, .inl (mkS rn (k * 6) (dif (dm k) w) y 6)))] H := hP
            have hD : va_D A [(hc, .inr (1, [.ref cd, .ref cr, .ref cn])), (cd, .inl (cI, 6, .inl (nA (va_up dm k ((dm k) &&& w))))), (cr, .inl (cI, 36, .inl (mkS rs (k * 6) (dif (dm k) w) z 6))), (cn, .inl (cI, 36, .inl (mkS rn (k * 6) (dif (dm k) w) y 6)))] := hD
            subst hw_96
            exact ret_i C0 hr hlk hAe hS (va_up dm k (dm k &&& w), mkS rs (k * 6) (dif (dm k) w) z 6, mkS rn (k * 6) (dif (dm k) w) y 6) (⟨rfl, rfl⟩) hP hD rfl (Nat.le_of_ble_eq_true rfl) (Nat.le_of_ble_eq_true rfl) d_Ch_keepOnly_99
          · refine lv_iload hx hb d_Ch_keepOnly_41 (lv_at hl 1 rfl) ?_
            refine lv_iload hx hb d_Ch_keepOnly_43 (lv_at hl 0 rfl) ?_
            refine call_i (rm := { frames := 0, cells := 0, slots := 0, locals := 0 }) hS hP hD hA (spl_mk (wc := []) (wr := [(hc, .inr (1, [.ref cd, .ref cr, .ref cn])), (cd, .inl (cI, 6, .inl (nA dm))), (cr, .inl (cI, 36, .inl (mkS rs (k * 6) (dif (dm k) w) z i))), (cn, .inl (cI, 36, .inl (mkS rn (k * 6) (dif (dm k) w) y i)))]) [] [0, 1, 2, 3] rfl rfl (by decide)) (run_sN (n := 2) (As := [.int (nI (dif (dm k) w)), .int (nI i)]) (rest := []) C0 (hK.sub [] rfl) (c_TC_has l D cI H.size (dif (dm k) w) i (by omega) (by omega)) wt_147 wt_1 wn_395 wt_146 (by decide +kernel) ⟨Nat.le_of_ble_eq_true rfl, Nat.le_of_ble_eq_true rfl⟩ rfl hl.1 rfl (Nat.le_of_ble_eq_true rfl) d_Ch_keepOnly_45 ⟨Nat.le_of_ble_eq_true rfl, Nat.le_of_ble_eq_true rfl⟩) (fun r_45 _u45 H locs hw_45 hP hD hS => ?_)
            have hP : va_P D cls [(hc, .inr (1, [.ref cd, .ref cr, .ref cn])), (cd, .inl (cI, 6, .inl (nA dm))), (cr, .inl (cI, 36, .inl (mkS rs (k * 6) (dif (dm k) w) z i))), (cn, .inl (cI, 36, .inl (mkS rn (k * 6) (dif (dm k) w) y i)))] H := hP
            have hD : va_D A [(hc, .inr (1, [.ref cd, .ref cr, .ref cn])), (cd, .inl (cI, 6, .inl (nA dm))), (cr, .inl (cI, 36, .inl (mkS rs (k * 6) (dif (dm k) w) z i))), (cn, .inl (cI, 36, .inl (mkS rn (k * 6) (dif (dm k) w) y i)))] := hD
            subst hw_45
            refine y_eq (tgt := 78) hx hb d_Ch_keepOnly_48 (by decide) (fun c_48 => ?_) (fun c_48 => ?_)
            · rw [show (mkS rs (k * 6) (dif (dm k) w) z i) = mkS rs (k * 6) (dif (dm k) w) z (i + 1) from mkS_f c_48] at hP hD
              rw [show (mkS rn (k * 6) (dif (dm k) w) y i) = mkS rn (k * 6) (dif (dm k) w) y (i + 1) from mkS_f c_48] at hP hD
              refine lv_iinc (v := (nI (i + 1))) (lv' := [(6, .int (nI (i + 1))), (5, .int (nI (dif (dm k) w))), (0, .ref hc), (1, .int (nI k)), (2, .int (nI w)), (3, .int z), (4, .int y)]) hx hb d_Ch_keepOnly_78 hl (k := 0) rfl (by exact nI_1 _) (by decide) rfl (fun ls hl => ?_)
              refine lv_goto (tgt := 34) hx hb d_Ch_keepOnly_81 (by decide) ?_
              exact ih34 (i + 1) (by omega) (by omega) _ _ _ hP hD hS (lv_sub hl [0, 1, 2, 3, 4, 5, 6] rfl)
            · refine lv_aload_n hx hb d_Ch_keepOnly_51 rfl (lv_at hl 2 rfl) ?_
              refine r_get C0 hK hP 0 rfl rfl i_Ch 1 (by decide) wt_33 (fun _ h => h) rfl d_Ch_keepOnly_52 ?_
              refine lv_iload_n hx hb d_Ch_keepOnly_55 rfl (lv_at hl 3 rfl) ?_
              refine lv_bipush (v := (nI 6)) hx hb d_Ch_keepOnly_56 (by decide) ?_
              refine lv_imul hx hb d_Ch_keepOnly_58 ?_
              refine t_eq (y := (nI (k * 6))) (pk_mul _ _) ?_
              refine lv_iload hx hb d_Ch_keepOnly_59 (lv_at hl 0 rfl) ?_
              refine lv_iadd hx hb d_Ch_keepOnly_61 ?_
              refine t_eq (y := (nI ((k * 6) + i))) (nI_add _ _) ?_
              refine lv_iload_n hx hb d_Ch_keepOnly_62 rfl (lv_at hl 5 rfl) ?_
              refine r_ast C0 hK hP hD hS 2 rfl (by omega) (by decide) d_Ch_keepOnly_63 (fun H locs hP hD hS => ?_)
              have hP : va_P D cls [(hc, .inr (1, [.ref cd, .ref cr, .ref cn])), (cd, .inl (cI, 6, .inl (nA dm))), (cr, .inl (cI, 36, .inl (upd (mkS rs (k * 6) (dif (dm k) w) z i) ((k * 6) + i) z))), (cn, .inl (cI, 36, .inl (mkS rn (k * 6) (dif (dm k) w) y i)))] H := hP
              have hD : va_D A [(hc, .inr (1, [.ref cd, .ref cr, .ref cn])), (cd, .inl (cI, 6, .inl (nA dm))), (cr, .inl (cI, 36, .inl (upd (mkS rs (k * 6) (dif (dm k) w) z i) ((k * 6) + i) z))), (cn, .inl (cI, 36, .inl (mkS rn (k * 6) (dif (dm k) w) y i)))] := hD
              refine lv_aload_n hx hb d_Ch_keepOnly_64 rfl (lv_at hl 2 rfl) ?_
              refine r_get C0 hK hP 0 rfl rfl i_Ch 2 (by decide) wt_35 (fun _ h => h) rfl d_Ch_keepOnly_65 ?_
              refine lv_iload_n hx hb d_Ch_keepOnly_68 rfl (lv_at hl 3 rfl) ?_
              refine lv_bipush (v := (nI 6)) hx hb d_Ch_keepOnly_69 (by decide) ?_
              refine lv_imul hx hb d_Ch_keepOnly_71 ?_
              refine t_eq (y := (nI (k * 6))) (pk_mul _ _) ?_
              refine lv_iload hx hb d_Ch_keepOnly_72 (lv_at hl 0 rfl) ?_
              refine lv_iadd hx hb d_Ch_keepOnly_74 ?_
              refine t_eq (y := (nI ((k * 6) + i))) (nI_add _ _) ?_
              refine lv_iload hx hb d_Ch_keepOnly_75 (lv_at hl 6 rfl) ?_
              refine r_ast C0 hK hP hD hS 3 rfl (by omega) (by decide) d_Ch_keepOnly_77 (fun H locs hP hD hS => ?_)
              have hP : va_P D cls [(hc, .inr (1, [.ref cd, .ref cr, .ref cn])), (cd, .inl (cI, 6, .inl (nA dm))), (cr, .inl (cI, 36, .inl (upd (mkS rs (k * 6) (dif (dm k) w) z i) ((k * 6) + i) z))), (cn, .inl (cI, 36, .inl (upd (mkS rn (k * 6) (dif (dm k) w) y i) ((k * 6) + i) y)))] H := hP
              have hD : va_D A [(hc, .inr (1, [.ref cd, .ref cr, .ref cn])), (cd, .inl (cI, 6, .inl (nA dm))), (cr, .inl (cI, 36, .inl (upd (mkS rs (k * 6) (dif (dm k) w) z i) ((k * 6) + i) z))), (cn, .inl (cI, 36, .inl (upd (mkS rn (k * 6) (dif (dm k) w) y i) ((k * 6) + i) y)))] := hD
              rw [show (upd (mkS rs (k * 6) (dif (dm k) w) z i) ((k * 6) + i) z) = mkS rs (k * 6) (dif (dm k) w) z (i + 1) from mkS_t c_48] at hP hD
              rw [show (upd (mkS rn (k * 6) (dif (dm k) w) y i) ((k * 6) + i) y) = mkS rn (k * 6) (dif (dm k) w) y (i + 1) from mkS_t c_48] at hP hD
              refine lv_iinc (v := (nI (i + 1))) (lv' := [(6, .int (nI (i + 1))), (5, .int (nI (dif (dm k) w))), (0, .ref hc), (1, .int (nI k)), (2, .int (nI w)), (3, .int z), (4, .int y)]) hx hb d_Ch_keepOnly_78 hl (k := 0) rfl (by exact nI_1 _) (by decide) rfl (fun ls hl => ?_)
              refine lv_goto (tgt := 34) hx hb d_Ch_keepOnly_81 (by decide) ?_
              exact ih34 (i + 1) (by omega) (by omega) _ _ _ hP hD hS (lv_sub hl [0, 1, 2, 3, 4, 5, 6] rfl)
      exact L34 (7) 0 (by omega) (by omega) _ _ _ hP hD hS (lv_sub hl [0, 1, 2, 3, 4, 5, 6] rfl)
    · refine lv_iconst (v := (nI 0)) hx hb d_Ch_keepOnly_29 (by decide) ?_
      exact ret_i C0 hr hlk hAe hS (dm, rs, rn) (by rw [c_26, mkS_z, mkS_z, up_id (dif_0 _ (hdm k) _ hw c_26)]; exact ⟨rfl, rfl⟩) hP hD rfl (Nat.le_of_ble_eq_true rfl) (Nat.le_of_ble_eq_true rfl) d_Ch_keepOnly_30
  · exact absurd c_7 (by omega)
