def rwF (ro : Nat → Nat) (w c i : Nat) : Nat → Nat := fun j => if 6 * c ≤ j ∧ j < 6 * c + i then dgt w (j - 6 * c) else ro j
theorem rwF_0 {ro : Nat → Nat} {w c : Nat} : rwF ro w c 0 = ro := by
  funext j
  unfold rwF
  rw [if_neg (by omega)]
theorem rwF_s {ro : Nat → Nat} {w c i : Nat} : va_up (rwF ro w c i) (6 * c + i) (dgt w i) = rwF ro w c (i + 1) := by
  funext j
  unfold va_up rwF
  by_cases h : j = 6 * c + i
  · subst h
    rw [if_pos rfl, if_pos (by omega), Nat.add_sub_cancel_left]
  · rw [if_neg h]
    by_cases g : 6 * c ≤ j ∧ j < 6 * c + i
    · rw [if_pos g, if_pos (by omega)]
    · rw [if_neg g, if_neg (by omega)]
/-- the arrays of the constraints, by their numbers -/
def adA (ar : Nat → Nat → Nat) (cs kd q w a b z : Nat) : Nat → Nat → Nat := fun id => if id = 10 then va_up (ar 10) cs kd else if id = 11 then va_up (ar 11) cs q else if id = 12 then va_up (ar 12) cs w else if id = 13 then rwF (ar 13) w cs q else if id = 14 then va_up (ar 14) cs a else if id = 15 then va_up (ar 15) cs b else if id = 16 then va_up (ar 16) cs z else if id = 17 then va_up (ar 17) cs 0 else ar id
theorem rowB_t {nm : Nat} {x y : Int32} (h : rowB nm x y = true) : ∃ q w, (1 ≤ q ∧ q ≤ 6) ∧ x = nI q ∧ y = nI w ∧ w < 2 ^ (3 * q) ∧ w < 262144 ∧ allB (rowN nm w) q = true := by
  unfold rowB at h
  by_cases g : 0 ≤ x.toInt ∧ x.toInt < ((7 : Nat) : Int)
  · obtain ⟨q, h1, h2, h3⟩ := ix_of (x := x) (m := 7) (by decide) g
    rw [h3] at h
    have h : (if q = 0 then false else (match ixN y (2 ^ (3 * q)) with
      | none => false
      | some w => allB (rowN nm w) q)) = true := h
    by_cases q0 : q = 0
    · rw [if_pos q0] at h; cases h
    · rw [if_neg q0] at h
      have hp := p18 (m := q) (by omega)
      by_cases gy : 0 ≤ y.toInt ∧ y.toInt < ((2 ^ (3 * q) : Nat) : Int)
      · obtain ⟨w, w1, w2, w3⟩ := ix_of (x := y) (m := 2 ^ (3 * q)) (by omega) gy
        rw [w3] at h
        exact ⟨q, w, by omega, h2, w2, w1, by omega, h⟩
      · rw [ix_none gy] at h; cases h
  · rw [ix_none g] at h; cases h
set_option maxHeartbeats 4000000 in
set_option maxRecDepth 100000 in
theorem c_M_add (l : Launch) (D : va_G) (cI : ClassId) (sz : Nat) (h : Nat) (ad : Nat → Nat) (nm : Nat) (mk : Nat) (rd : Nat) (cs : Nat) (ar : Nat → Nat → Nat) (kd : Nat) (q : Nat) (w : Nat) (a : Nat) (b : Nat) (z : Nat) (hcs : cs ≤ 10) (hq : q ≤ 6) (hw : w < 2147483648) : MetI l y_M_add b_M_add 9 (some .int) { frames := 0, cells := 0, slots := 0, locals := 0 } D cI [] sz [(h, .inr (10, oM ad nm mk rd cs)), (ad 10, .inl (cI, 10, .inl (nA (ar 10)))), (ad 11, .inl (cI, 10, .inl (nA (ar 11)))), (ad 12, .inl (cI, 10, .inl (nA (ar 12)))), (ad 13, .inl (cI, 60, .inl (nA (ar 13)))), (ad 14, .inl (cI, 10, .inl (nA (ar 14)))), (ad 15, .inl (cI, 10, .inl (nA (ar 15)))), (ad 16, .inl (cI, 10, .inl (nA (ar 16)))), (ad 17, .inl (cI, 10, .inl (nA (ar 17))))] [.ref h, .int (nI kd), .int (nI q), .int (nI w), .int (nI a), .int (nI b), .int (nI z)] (fun (r : Int32) (u : Nat × (Nat → Nat → Nat)) => (cs = 10 ∧ r = -3 ∧ u = (cs, ar)) ∨ (¬ cs = 10 ∧ r = nI cs ∧ u = (cs + 1, adA ar cs kd q w a b z))) (fun u : Nat × (Nat → Nat → Nat) => [(h, .inr (10, oM ad nm mk rd u.1)), (ad 10, .inl (cI, 10, .inl (nA (u.2 10)))), (ad 11, .inl (cI, 10, .inl (nA (u.2 11)))), (ad 12, .inl (cI, 10, .inl (nA (u.2 12)))), (ad 13, .inl (cI, 60, .inl (nA (u.2 13)))), (ad 14, .inl (cI, 10, .inl (nA (u.2 14)))), (ad 15, .inl (cI, 10, .inl (nA (u.2 15)))), (ad 16, .inl (cI, 10, .inl (nA (u.2 16)))), (ad 17, .inl (cI, 10, .inl (nA (u.2 17))))]) := by
  refine enter (by decide) (Nat.le_of_ble_eq_true rfl) ?_
  intro p e s m below meth c A ls C0 hr hlk hnm hK hsz hA hAe hP hD hS hl
  have hx := C0.1
  have hb := C0.2.1
  have hl : lv_has ls 9 [(0, .ref h), (1, .int (nI kd)), (2, .int (nI q)), (3, .int (nI w)), (4, .int (nI a)), (5, .int (nI b)), (6, .int (nI z))] := hl
  refine lv_aload_n hx hb d_M_add_0 rfl (lv_at hl 0 rfl) ?_
  refine r_get C0 hK hP 0 rfl rfl i_M 9 (by decide) wt_672 (fun _ h => h) rfl d_M_add_1 ?_
  refine lv_bipush (v := (nI 10)) hx hb d_M_add_4 (by decide) ?_
  refine b_ne (tgt := 12) hx hb (by omega) (by decide) d_M_add_6 (by decide) (fun c_6 => ?_) (fun c_6 => ?_)
  · refine lv_aload_n hx hb d_M_add_12 rfl (lv_at hl 0 rfl) ?_
    refine r_get C0 hK hP 0 rfl rfl i_M 9 (by decide) wt_672 (fun _ h => h) rfl d_M_add_13 ?_
    refine lv_istore (lv' := [(7, .int (nI cs)), (0, .ref h), (1, .int (nI kd)), (2, .int (nI q)), (3, .int (nI w)), (4, .int (nI a)), (5, .int (nI b)), (6, .int (nI z))]) hx hb d_M_add_16 hl (by decide) rfl (fun ls hl => ?_)
    refine lv_aload_n hx hb d_M_add_18 rfl (lv_at hl 1 rfl) ?_
    refine lv_dup hx hb d_M_add_19 rfl ?_
    refine r_get C0 hK hP 0 rfl rfl i_M 9 (by decide) wt_672 (fun _ h => h) rfl d_M_add_20 ?_
    refine lv_iconst (v := (nI 1)) hx hb d_M_add_23 (by decide) ?_
    refine lv_iadd hx hb d_M_add_24 ?_
    refine t_eq (y := (nI (cs + 1))) (nI_add _ _) ?_
    refine r_put C0 hK hP hD hS 0 rfl rfl i_M t_M k_M n_M 9 (by decide) wt_672 (fun _ h => h) rfl rfl rfl (Nat.le_of_ble_eq_true rfl) d_M_add_25 (fun H locs hP hD hS => ?_)
    have hP : va_P D cls [(h, .inr (10, oM ad nm mk rd (cs + 1))), (ad 10, .inl (cI, 10, .inl (nA (ar 10)))), (ad 11, .inl (cI, 10, .inl (nA (ar 11)))), (ad 12, .inl (cI, 10, .inl (nA (ar 12)))), (ad 13, .inl (cI, 60, .inl (nA (ar 13)))), (ad 14, .inl (cI, 10, .inl (nA (ar 14)))), (ad 15, .inl (cI, 10, .inl (nA (ar 15)))), (ad 16, .inl (cI, 10, .inl (nA (ar 16)))), (ad 17, .inl (cI, 10, .inl (nA (ar 17))))] H := hP
    have hD : va_D A [(h, .inr (10, oM ad nm mk rd (cs + 1))), (ad 10, .inl (cI, 10, .inl (nA (ar 10)))), (ad 11, .inl (cI, 10, .inl (nA (ar 11)))), (ad 12, .inl (cI, 10, .inl (nA (ar 12)))), (ad 13, .inl (cI, 60, .inl (nA (ar 13)))), (ad 14, .inl (cI, 10, .inl (nA (ar 14)))), (ad 15, .inl (cI, 10, .inl (nA (ar 15)))), (ad 16, .inl (cI, 10, .inl (nA (ar 16)))), (ad 17, .inl (cI, 10, .inl (nA (ar 17))))] := hD
    refine lv_aload_n hx hb d_M_add_28 rfl (lv_at hl 1 rfl) ?_
    refine r_get C0 hK hP 0 rfl rfl i_M 10 (by decide) wt_673 (fun _ h => h) rfl d_M_add_29 ?_
    refine lv_iload hx hb d_M_add_32 (lv_at hl 0 rfl) ?_
    refine lv_iload_n hx hb d_M_add_34 rfl (lv_at hl 2 rfl) ?_
    refine r_astN C0 hK hP hD hS 1 rfl (by omega) (by decide) d_M_add_35 (fun H locs hP hD hS => ?_)
    have hP : va_P D cls [(h, .inr (10, oM ad nm mk rd (cs + 1))), (ad 10, .inl (cI, 10, .inl (nA (va_up (ar 10) cs kd)))), (ad 11, .inl (cI, 10, .inl (nA (ar 11)))), (ad 12, .inl (cI, 10, .inl (nA (ar 12)))), (ad 13, .inl (cI, 60, .inl (nA (ar 13)))), (ad 14, .inl (cI, 10, .inl (nA (ar 14)))), (ad 15, .inl (cI, 10, .inl (nA (ar 15)))), (ad 16, .inl (cI, 10, .inl (nA (ar 16)))), (ad 17, .inl (cI, 10, .inl (nA (ar 17))))] H := hP
    have hD : va_D A [(h, .inr (10, oM ad nm mk rd (cs + 1))), (ad 10, .inl (cI, 10, .inl (nA (va_up (ar 10) cs kd)))), (ad 11, .inl (cI, 10, .inl (nA (ar 11)))), (ad 12, .inl (cI, 10, .inl (nA (ar 12)))), (ad 13, .inl (cI, 60, .inl (nA (ar 13)))), (ad 14, .inl (cI, 10, .inl (nA (ar 14)))), (ad 15, .inl (cI, 10, .inl (nA (ar 15)))), (ad 16, .inl (cI, 10, .inl (nA (ar 16)))), (ad 17, .inl (cI, 10, .inl (nA (ar 17))))] := hD
    refine lv_aload_n hx hb d_M_add_36 rfl (lv_at hl 1 rfl) ?_
    refine r_get C0 hK hP 0 rfl rfl i_M 11 (by decide) wt_674 (fun _ h => h) rfl d_M_add_37 ?_
    refine lv_iload hx hb d_M_add_40 (lv_at hl 0 rfl) ?_
    refine lv_iload_n hx hb d_M_add_42 rfl (lv_at hl 3 rfl) ?_
    refine r_astN C0 hK hP hD hS 2 rfl (by omega) (by decide) d_M_add_43 (fun H locs hP hD hS => ?_)
    have hP : va_P D cls [(h, .inr (10, oM ad nm mk rd (cs + 1))), (ad 10, .inl (cI, 10, .inl (nA (va_up (ar 10) cs kd)))), (ad 11, .inl (cI, 10, .inl (nA (va_up (ar 11) cs q)))), (ad 12, .inl (cI, 10, .inl (nA (ar 12)))), (ad 13, .inl (cI, 60, .inl (nA (ar 13)))), (ad 14, .inl (cI, 10, .inl (nA (ar 14)))), (ad 15, .inl (cI, 10, .inl (nA (ar 15)))), (ad 16, .inl (cI, 10, .inl (nA (ar 16)))), (ad 17, .inl (cI, 10, .inl (nA (ar 17))))] H := hP
    have hD : va_D A [(h, .inr (10, oM ad nm mk rd (cs + 1))), (ad 10, .inl (cI, 10, .inl (nA (va_up (ar 10) cs kd)))), (ad 11, .inl (cI, 10, .inl (nA (va_up (ar 11) cs q)))), (ad 12, .inl (cI, 10, .inl (nA (ar 12)))), (ad 13, .inl (cI, 60, .inl (nA (ar 13)))), (ad 14, .inl (cI, 10, .inl (nA (ar 14)))), (ad 15, .inl (cI, 10, .inl (nA (ar 15)))), (ad 16, .inl (cI, 10, .inl (nA (ar 16)))), (ad 17, .inl (cI, 10, .inl (nA (ar 17))))] := hD
    refine lv_aload_n hx hb d_M_add_44 rfl (lv_at hl 1 rfl) ?_
    refine r_get C0 hK hP 0 rfl rfl i_M 12 (by decide) wt_675 (fun _ h => h) rfl d_M_add_45 ?_
    refine lv_iload hx hb d_M_add_48 (lv_at hl 0 rfl) ?_
    refine lv_iload_n hx hb d_M_add_50 rfl (lv_at hl 4 rfl) ?_
    refine r_astN C0 hK hP hD hS 3 rfl (by omega) (by decide) d_M_add_51 (fun H locs hP hD hS => ?_)
    have hP : va_P D cls [(h, .inr (10, oM ad nm mk rd (cs + 1))), (ad 10, .inl (cI, 10, .inl (nA (va_up (ar 10) cs kd)))), (ad 11, .inl (cI, 10, .inl (nA (va_up (ar 11) cs q)))), (ad 12, .inl (cI, 10, .inl (nA (va_up (ar 12) cs w)))), (ad 13, .inl (cI, 60, .inl (nA (ar 13)))), (ad 14, .inl (cI, 10, .inl (nA (ar 14)))), (ad 15, .inl (cI, 10, .inl (nA (ar 15)))), (ad 16, .inl (cI, 10, .inl (nA (ar 16)))), (ad 17, .inl (cI, 10, .inl (nA (ar 17))))] H := hP
    have hD : va_D A [(h, .inr (10, oM ad nm mk rd (cs + 1))), (ad 10, .inl (cI, 10, .inl (nA (va_up (ar 10) cs kd)))), (ad 11, .inl (cI, 10, .inl (nA (va_up (ar 11) cs q)))), (ad 12, .inl (cI, 10, .inl (nA (va_up (ar 12) cs w)))), (ad 13, .inl (cI, 60, .inl (nA (ar 13)))), (ad 14, .inl (cI, 10, .inl (nA (ar 14)))), (ad 15, .inl (cI, 10, .inl (nA (ar 15)))), (ad 16, .inl (cI, 10, .inl (nA (ar 16)))), (ad 17, .inl (cI, 10, .inl (nA (ar 17))))] := hD
    refine lv_iconst (v := (nI 0)) hx hb d_M_add_52 (by decide) ?_
    refine lv_istore (lv' := [(8, .int (nI 0)), (7, .int (nI cs)), (0, .ref h), (1, .int (nI kd)), (2, .int (nI q)), (3, .int (nI w)), (4, .int (nI a)), (5, .int (nI b)), (6, .int (nI z))]) hx hb d_M_add_53 hl (by decide) rfl (fun ls hl => ?_)
    rw [show (ar 13) = rwF (ar 13) w cs 0 from rwF_0.symm] at hP hD
    have L55 : ∀ (fuel55 : Nat) (i : Nat), (i ≤ q) → (q < i + fuel55) → ∀ (H : Heap) (locs : List Loc) (ls : Array Slot), va_P D cls [(h, .inr (10, oM ad nm mk rd (cs + 1))), (ad 10, .inl (cI, 10, .inl (nA (va_up (ar 10) cs kd)))), (ad 11, .inl (cI, 10, .inl (nA (va_up (ar 11) cs q)))), (ad 12, .inl (cI, 10, .inl (nA (va_up (ar 12) cs w)))), (ad 13, .inl (cI, 60, .inl (nA (rwF (ar 13) w cs i)))), (ad 14, .inl (cI, 10, .inl (nA (ar 14)))), (ad 15, .inl (cI, 10, .inl (nA (ar 15)))), (ad 16, .inl (cI, 10, .inl (nA (ar 16)))), (ad 17, .inl (cI, 10, .inl (nA (ar 17))))] H → va_D A [(h, .inr (10, oM ad nm mk rd (cs + 1))), (ad 10, .inl (cI, 10, .inl (nA (va_up (ar 10) cs kd)))), (ad 11, .inl (cI, 10, .inl (nA (va_up (ar 11) cs q)))), (ad 12, .inl (cI, 10, .inl (nA (va_up (ar 12) cs w)))), (ad 13, .inl (cI, 60, .inl (nA (rwF (ar 13) w cs i)))), (ad 14, .inl (cI, 10, .inl (nA (ar 14)))), (ad 15, .inl (cI, 10, .inl (nA (ar 15)))), (ad 16, .inl (cI, 10, .inl (nA (ar 16)))), (ad 17, .inl (cI, 10, .inl (nA (ar 17))))] → va_S A s.heap H locs → lv_has ls 9 [(8, .int (nI i)), (7, .int (nI cs)), (0, .ref h), (1, .int (nI kd)), (2, .int (nI q)), (3, .int (nI w)), (4, .int (nI a)), (5, .int (nI b)), (6, .int (nI z))] → W p l e { frames := 0, cells := 0, slots := 0, locals := 0 } s m ([.ref h, .int (nI kd), .int (nI q), .int (nI w), .int (nI a), .int (nI b), .int (nI z)] : List Value).toArray below meth c H locs 0 0 (MQ below (pstI D [(h, .inr (10, oM ad nm mk rd cs)), (ad 10, .inl (cI, 10, .inl (nA (ar 10)))), (ad 11, .inl (cI, 10, .inl (nA (ar 11)))), (ad 12, .inl (cI, 10, .inl (nA (ar 12)))), (ad 13, .inl (cI, 60, .inl (nA (ar 13)))), (ad 14, .inl (cI, 10, .inl (nA (ar 14)))), (ad 15, .inl (cI, 10, .inl (nA (ar 15)))), (ad 16, .inl (cI, 10, .inl (nA (ar 16)))), (ad 17, .inl (cI, 10, .inl (nA (ar 17))))] sz (fun (r : Int32) (u : Nat × (Nat → Nat → Nat)) => (cs = 10 ∧ r = -3 ∧ u = (cs, ar)) ∨ (¬ cs = 10 ∧ r = nI cs ∧ u = (cs + 1, adA ar cs kd q w a b z))) (fun u : Nat × (Nat → Nat → Nat) => [(h, .inr (10, oM ad nm mk rd u.1)), (ad 10, .inl (cI, 10, .inl (nA (u.2 10)))), (ad 11, .inl (cI, 10, .inl (nA (u.2 11)))), (ad 12, .inl (cI, 10, .inl (nA (u.2 12)))), (ad 13, .inl (cI, 60, .inl (nA (u.2 13)))), (ad 14, .inl (cI, 10, .inl (nA (u.2 14)))), (ad 15, .inl (cI, 10, .inl (nA (u.2 15)))), (ad 16, .inl (cI, 10, .inl (nA (u.2 16)))), (ad 17, .inl (cI, 10, .inl (nA (u.2 17))))])) ([.ref h, .int (nI kd), .int (nI q), .int (nI w), .int (nI a), .int (nI b), .int (nI z)] : List Value).toArray s 0 0 A) (F0 m 55 ls []) := by
      intro fuel55
      induction fuel55 with
      | zero => intros; omega
      | succ fuel55 ih55 =>
        intro i hi hfu H locs ls hP hD hS hl
        refine lv_iload hx hb d_M_add_55 (lv_at hl 0 rfl) ?_
        refine lv_iload_n hx hb d_M_add_57 rfl (lv_at hl 4 rfl) ?_
        refine b_ge (tgt := 89) hx hb (by omega) (by omega) d_M_add_58 (by decide) (fun c_58 => ?_) (fun c_58 => ?_)
        · obtain rfl : q = i := (by omega)
          refine lv_aload_n hx hb d_M_add_89 rfl (lv_at hl 2 rfl) ?_
          refine r_get C0 hK hP 0 rfl rfl i_M 14 (by decide) wt_677 (fun _ h => h) rfl d_M_add_90 ?_
          refine lv_iload hx hb d_M_add_93 (lv_at hl 1 rfl) ?_
          refine lv_iload hx hb d_M_add_95 (lv_at hl 6 rfl) ?_
          refine r_astN C0 hK hP hD hS 5 rfl (by omega) (by decide) d_M_add_97 (fun H locs hP hD hS => ?_)
          have hP : va_P D cls [(h, .inr (10, oM ad nm mk rd (cs + 1))), (ad 10, .inl (cI, 10, .inl (nA (va_up (ar 10) cs kd)))), (ad 11, .inl (cI, 10, .inl (nA (va_up (ar 11) cs q)))), (ad 12, .inl (cI, 10, .inl (nA (va_up (ar 12) cs w)))), (ad 13, .inl (cI, 60, .inl (nA (rwF (ar 13) w cs q)))), (ad 14, .inl (cI, 10, .inl (nA (va_up (ar 14) cs a)))), (ad 15, .inl (cI, 10, .inl (nA (ar 15)))), (ad 16, .inl (cI, 10, .inl (nA (ar 16)))), (ad 17, .inl (cI, 10, .inl (nA (ar 17))))] H := hP
          have hD : va_D A [(h, .inr (10, oM ad nm mk rd (cs + 1))), (ad 10, .inl (cI, 10, .inl (nA (va_up (ar 10) cs kd)))), (ad 11, .inl (cI, 10, .inl (nA (va_up (ar 11) cs q)))), (ad 12, .inl (cI, 10, .inl (nA (va_up (ar 12) cs w)))), (ad 13, .inl (cI, 60, .inl (nA (rwF (ar 13) w cs q)))), (ad 14, .inl (cI, 10, .inl (nA (va_up (ar 14) cs a)))), (ad 15, .inl (cI, 10, .inl (nA (ar 15)))), (ad 16, .inl (cI, 10, .inl (nA (ar 16)))), (ad 17, .inl (cI, 10, .inl (nA (ar 17))))] := hD
          refine lv_aload_n hx hb d_M_add_98 rfl (lv_at hl 2 rfl) ?_
          refine r_get C0 hK hP 0 rfl rfl i_M 15 (by decide) wt_678 (fun _ h => h) rfl d_M_add_99 ?_
          refine lv_iload hx hb d_M_add_102 (lv_at hl 1 rfl) ?_
          refine lv_iload hx hb d_M_add_104 (lv_at hl 7 rfl) ?_
          refine r_astN C0 hK hP hD hS 6 rfl (by omega) (by decide) d_M_add_106 (fun H locs hP hD hS => ?_)
          have hP : va_P D cls [(h, .inr (10, oM ad nm mk rd (cs + 1))), (ad 10, .inl (cI, 10, .inl (nA (va_up (ar 10) cs kd)))), (ad 11, .inl (cI, 10, .inl (nA (va_up (ar 11) cs q)))), (ad 12, .inl (cI, 10, .inl (nA (va_up (ar 12) cs w)))), (ad 13, .inl (cI, 60, .inl (nA (rwF (ar 13) w cs q)))), (ad 14, .inl (cI, 10, .inl (nA (va_up (ar 14) cs a)))), (ad 15, .inl (cI, 10, .inl (nA (va_up (ar 15) cs b)))), (ad 16, .inl (cI, 10, .inl (nA (ar 16)))), (ad 17, .inl (cI, 10, .inl (nA (ar 17))))] H := hP
          have hD : va_D A [(h, .inr (10, oM ad nm mk rd (cs + 1))), (ad 10, .inl (cI, 10, .inl (nA (va_up (ar 10) cs kd)))), (ad 11, .inl (cI, 10, .inl (nA (va_up (ar 11) cs q)))), (ad 12, .inl (cI, 10, .inl (nA (va_up (ar 12) cs w)))), (ad 13, .inl (cI, 60, .inl (nA (rwF (ar 13) w cs q)))), (ad 14, .inl (cI, 10, .inl (nA (va_up (ar 14) cs a)))), (ad 15, .inl (cI, 10, .inl (nA (va_up (ar 15) cs b)))), (ad 16, .inl (cI, 10, .inl (nA (ar 16)))), (ad 17, .inl (cI, 10, .inl (nA (ar 17))))] := hD
          refine lv_aload_n hx hb d_M_add_107 rfl (lv_at hl 2 rfl) ?_
          refine r_get C0 hK hP 0 rfl rfl i_M 16 (by decide) wt_679 (fun _ h => h) rfl d_M_add_108 ?_
          refine lv_iload hx hb d_M_add_111 (lv_at hl 1 rfl) ?_
          refine lv_iload hx hb d_M_add_113 (lv_at hl 8 rfl) ?_
          refine r_astN C0 hK hP hD hS 7 rfl (by omega) (by decide) d_M_add_115 (fun H locs hP hD hS => ?_)
          have hP : va_P D cls [(h, .inr (10, oM ad nm mk rd (cs + 1))), (ad 10, .inl (cI, 10, .inl (nA (va_up (ar 10) cs kd)))), (ad 11, .inl (cI, 10, .inl (nA (va_up (ar 11) cs q)))), (ad 12, .inl (cI, 10, .inl (nA (va_up (ar 12) cs w)))), (ad 13, .inl (cI, 60, .inl (nA (rwF (ar 13) w cs q)))), (ad 14, .inl (cI, 10, .inl (nA (va_up (ar 14) cs a)))), (ad 15, .inl (cI, 10, .inl (nA (va_up (ar 15) cs b)))), (ad 16, .inl (cI, 10, .inl (nA (va_up (ar 16) cs z)))), (ad 17, .inl (cI, 10, .inl (nA (ar 17))))] H := hP
          have hD : va_D A [(h, .inr (10, oM ad nm mk rd (cs + 1))), (ad 10, .inl (cI, 10, .inl (nA (va_up (ar 10) cs kd)))), (ad 11, .inl (cI, 10, .inl (nA (va_up (ar 11) cs q)))), (ad 12, .inl (cI, 10, .inl (nA (va_up (ar 12) cs w)))), (ad 13, .inl (cI, 60, .inl (nA (rwF (ar 13) w cs q)))), (ad 14, .inl (cI, 10, .inl (nA (va_up (ar 14) cs a)))), (ad 15, .inl (cI, 10, .inl (nA (va_up (ar 15) cs b)))), (ad 16, .inl (cI, 10, .inl (nA (va_up (ar 16) cs z)))), (ad 17, .inl (cI, 10, .inl (nA (ar 17))))] := hD
          refine lv_aload_n hx hb d_M_add_116 rfl (lv_at hl 2 rfl) ?_
          refine r_get C0 hK hP 0 rfl rfl i_M 17 (by decide) wt_680 (fun _ h => h) rfl d_M_add_117 ?_
          refine lv_iload hx hb d_M_add_120 (lv_at hl 1 rfl) ?_
          refine lv_iconst (v := (nI 0)) hx hb d_M_add_122 (by decide) ?_
          refine r_astN C0 hK hP hD hS 8 rfl (by omega) (by decide) d_M_add_123 (fun H locs hP hD hS => ?_)
          have hP : va_P D cls [(h, .inr (10, oM ad nm mk rd (cs + 1))), (ad 10, .inl (cI, 10, .inl (nA (va_up (ar 10) cs kd)))), (ad 11, .inl (cI, 10, .inl (nA (va_up (ar 11) cs q)))), (ad 12, .inl (cI, 10, .inl (nA (va_up (ar 12) cs w)))), (ad 13, .inl (cI, 60, .inl (nA (rwF (ar 13) w cs q)))), (ad 14, .inl (cI, 10, .inl (nA (va_up (ar 14) cs a)))), (ad 15, .inl (cI, 10, .inl (nA (va_up (ar 15) cs b)))), (ad 16, .inl (cI, 10, .inl (nA (va_up (ar 16) cs z)))), (ad 17, .inl (cI, 10, .inl (nA (va_up (ar 17) cs 0))))] H := hP
          have hD : va_D A [(h, .inr (10, oM ad nm mk rd (cs + 1))), (ad 10, .inl (cI, 10, .inl (nA (va_up (ar 10) cs kd)))), (ad 11, .inl (cI, 10, .inl (nA (va_up (ar 11) cs q)))), (ad 12, .inl (cI, 10, .inl (nA (va_up (ar 12) cs w)))), (ad 13, .inl (cI, 60, .inl (nA (rwF (ar 13) w cs q)))), (ad 14, .inl (cI, 10, .inl (nA (va_up (ar 14) cs a)))), (ad 15, .inl (cI, 10, .inl (nA (va_up (ar 15) cs b)))), (ad 16, .inl (cI, 10, .inl (nA (va_up (ar 16) cs z)))), (ad 17, .inl (cI, 10, .inl (nA (va_up (ar 17) cs 0))))] := hD
          refine lv_iload hx hb d_M_add_124 (lv_at hl 1 rfl) ?_
          exact ret_i C0 hr hlk hAe hS (cs + 1, adA ar cs kd q w a b z) (Or.inr ⟨c_6, rfl, rfl⟩) hP hD rfl (Nat.le_of_ble_eq_true rfl) (Nat.le_of_ble_eq_true rfl) d_M_add_126
        · refine lv_aload_n hx hb d_M_add_61 rfl (lv_at hl 2 rfl) ?_
          refine r_get C0 hK hP 0 rfl rfl i_M 13 (by decide) wt_676 (fun _ h => h) rfl d_M_add_62 ?_
          refine lv_bipush (v := (nI 6)) hx hb d_M_add_65 (by decide) ?_
          refine lv_iload hx hb d_M_add_67 (lv_at hl 1 rfl) ?_
          refine lv_imul hx hb d_M_add_69 ?_
          refine t_eq (y := (nI (6 * cs))) (pk_mul _ _) ?_
          refine lv_iload hx hb d_M_add_70 (lv_at hl 0 rfl) ?_
          refine lv_iadd hx hb d_M_add_72 ?_
          refine t_eq (y := (nI ((6 * cs) + i))) (nI_add _ _) ?_
          refine lv_iload_n hx hb d_M_add_73 rfl (lv_at hl 5 rfl) ?_
          refine lv_iconst (v := (nI 3)) hx hb d_M_add_74 (by decide) ?_
          refine lv_iload hx hb d_M_add_75 (lv_at hl 0 rfl) ?_
          refine lv_imul hx hb d_M_add_77 ?_
          refine t_eq (y := (nI (3 * i))) (pk_mul _ _) ?_
          refine lv_ishr hx hb d_M_add_78 ?_
          refine t_eq (y := (nI (w / 2 ^ (3 * i)))) (m_shr (by omega) (by omega)) ?_
          refine lv_bipush (v := (nI 7)) hx hb d_M_add_79 (by decide) ?_
          refine lv_iand hx hb d_M_add_81 ?_
          refine t_eq (y := (nI (dgt w i))) (m_and7 _) ?_
          have hd_81 := dgt_lt w i
          refine r_astN C0 hK hP hD hS 4 rfl (by omega) (by decide) d_M_add_82 (fun H locs hP hD hS => ?_)
          have hP : va_P D cls [(h, .inr (10, oM ad nm mk rd (cs + 1))), (ad 10, .inl (cI, 10, .inl (nA (va_up (ar 10) cs kd)))), (ad 11, .inl (cI, 10, .inl (nA (va_up (ar 11) cs q)))), (ad 12, .inl (cI, 10, .inl (nA (va_up (ar 12) cs w)))), (ad 13, .inl (cI, 60, .inl (nA (va_up (rwF (ar 13) w cs i) ((6 * cs) + i) (dgt w i))))), (ad 14, .inl (cI, 10, .inl (nA (ar 14)))), (ad 15, .inl (cI, 10, .inl (nA (ar 15)))), (ad 16, .inl (cI, 10, .inl (nA (ar 16)))), (ad 17, .inl (cI, 10, .inl (nA (ar 17))))] H := hP
          have hD : va_D A [(h, .inr (10, oM ad nm mk rd (cs + 1))), (ad 10, .inl (cI, 10, .inl (nA (va_up (ar 10) cs kd)))), (ad 11, .inl (cI, 10, .inl (nA (va_up (ar 11) cs q)))), (ad 12, .inl (cI, 10, .inl (nA (va_up (ar 12) cs w)))), (ad 13, .inl (cI, 60, .inl (nA (va_up (rwF (ar 13) w cs i) ((6 * cs) + i) (dgt w i))))), (ad 14, .inl (cI, 10, .inl (nA (ar 14)))), (ad 15, .inl (cI, 10, .inl (nA (ar 15)))), (ad 16, .inl (cI, 10, .inl (nA (ar 16)))), (ad 17, .inl (cI, 10, .inl (nA (ar 17))))] := hD
          rw [show (va_up (rwF (ar 13) w cs i) ((6 * cs) + i) (dgt w i)) = rwF (ar 13) w cs (i + 1) from rwF_s] at hP hD
          refine lv_iinc (v := (nI (i + 1))) (lv' := [(8, .int (nI (i + 1))), (7, .int (nI cs)), (0, .ref h), (1, .int (nI kd)), (2, .int (nI q)), (3, .int (nI w)), (4, .int (nI a)), (5, .int (nI b)), (6, .int (nI z))]) hx hb d_M_add_83 hl (k := 0) rfl (by exact nI_1 _) (by decide) rfl (fun ls hl => ?_)
          refine lv_goto (tgt := 55) hx hb d_M_add_86 (by decide) ?_
          exact ih55 (i + 1) (by omega) (by omega) _ _ _ hP hD hS (lv_sub hl [0, 1, 2, 3, 4, 5, 6, 7, 8] rfl)
    exact L55 (q + 1) 0 (by omega) (by omega) _ _ _ hP hD hS (lv_sub hl [0, 1, 2, 3, 4, 5, 6, 7, 8] rfl)
  · refine lv_bipush (v := (-3)) hx hb d_M_add_9 (by decide) ?_
    exact ret_i C0 hr hlk hAe hS (cs, ar) (Or.inl ⟨c_6, rfl, rfl⟩) hP hD rfl (Nat.le_of_ble_eq_true rfl) (Nat.le_of_ble_eq_true rfl) d_M_add_11
def rowO (nm : Nat) (x y : Int32) : Option (Nat × Nat) := if rowB nm x y = true then some (x.toInt.toNat, y.toInt.toNat) else none
theorem rowO_n {nm : Nat} {x y : Int32} (h : rowB nm x y = false) : rowO nm x y = none := by
  unfold rowO
  rw [if_neg (by rw [h]; decide)]
theorem rowO_s {nm : Nat} {x y : Int32} (h : rowB nm x y = true) : ∃ q w, (1 ≤ q ∧ q ≤ 6) ∧ x = nI q ∧ y = nI w ∧ w < 2 ^ (3 * q) ∧ w < 262144 ∧ allB (rowN nm w) q = true ∧ rowO nm x y = some (q, w) := by
  obtain ⟨q, w, h1, h2, h3, h4, h5, h6⟩ := rowB_t h
  refine ⟨q, w, h1, h2, h3, h4, h5, h6, ?_⟩
  unfold rowO
  rw [if_pos h, h2, h3, nI_toInt (by omega), nI_toInt (by omega)]
  rfl
abbrev newT : Type := Nat × Nat × Nat × Nat × Nat × Nat
def oTa (nm : Nat) (x y : Int32) : Option newT := (rowO nm x y).map (fun t => (0, t.1, t.2, 0, 0, 0))
def oMa (nm : Nat) (x y z v : Int32) : Option newT := (rowO nm x y).bind (fun t => (ixN z 64).bind (fun a => (ixN v 1001).map (fun b => (1, t.1, t.2, a, b, 0))))
def oEl (nm : Nat) (x y : Int32) : Option newT := (rowO nm x y).bind (fun t => if 3 ≤ t.1 then some (2, t.1, t.2, 0, 0, 0) else none)
def oOr (nm : Nat) (x y : Int32) (sf : Bool) : Option newT := (rowO nm x y).bind (fun t => if t.1 % 2 = 0 then some (3, t.1, t.2, (if sf = true then 1 else 0), 0, 0) else none)
def oSu (nm : Nat) (x y z v : Int32) : Option newT := (rowO nm x y).bind (fun t => (ixN z 31).bind (fun a => (ixN v 31).bind (fun b => if a ≤ b then some (4, t.1, t.2, a, b, 0) else none)))
def oTy (nm : Nat) (x y z v g : Int32) : Option newT := (rowO nm x y).bind (fun t => (ixN z 6).bind (fun c => (ixN v 7).bind (fun a => (ixN g 7).bind (fun b => if a ≤ b then some (5, t.1, t.2, a, b, c) else none))))
def oFi (nm : Nat) (x y z v : Int32) : Option newT := (rowO nm x y).bind (fun t => (ixN z 6).bind (fun a => (ixN v 6).bind (fun b => if a = b then none else some (6, t.1, t.2, a, b, 0))))
/-- a constraint more, or why not -/
def adS (ar : Nat → Nat → Nat) (cs : Nat) (o : Option newT) : Int32 × Nat × (Nat → Nat → Nat) := match o with
  | none => (-2, cs, ar)
  | some t => if cs = 10 then (-3, cs, ar) else (nI cs, cs + 1, adA ar cs t.1 t.2.1 t.2.2.1 t.2.2.2.1 t.2.2.2.2.1 t.2.2.2.2.2)
theorem adS_n {ar : Nat → Nat → Nat} {cs : Nat} {o : Option newT} (h : o = none) : ((-2 : Int32), cs, ar) = adS ar cs o := by rw [h]; rfl
theorem adS_s {ar : Nat → Nat → Nat} {cs kd q w a b z : Nat} {o : Option newT} {r : Int32} {u : Nat × (Nat → Nat → Nat)} (h : o = some (kd, q, w, a, b, z)) (g : (cs = 10 ∧ r = -3 ∧ u = (cs, ar)) ∨ (¬ cs = 10 ∧ r = nI cs ∧ u = (cs + 1, adA ar cs kd q w a b z))) : (r, u) = adS ar cs o := by
  rw [h]
  show _ = (if _ then _ else _)
  rcases g with ⟨h1, h2, h3⟩ | ⟨h1, h2, h3⟩
  · rw [if_pos h1, h2, h3]
  · rw [if_neg h1, h2, h3]
theorem il_t {x y : Int32} {a b : Nat} (ha : y = nI a) (hb : b < 1073741824) (hab : a ≤ b) (h : (decide (y ≤ x) && decide (x ≤ nI b)) = true) : ∃ j, (a ≤ j ∧ j < b + 1) ∧ x = nI j ∧ ixN x (b + 1) = some j := by
  have q := and_t h
  rw [le_i, le_i, ha, nI_toInt (by omega), nI_toInt (by omega)] at q
  obtain ⟨j, h1, h2, h3⟩ := ix_of (x := x) (m := b + 1) (by omega) (by omega)
  refine ⟨j, ⟨?_, h1⟩, h2, h3⟩
  rw [h2, nI_toInt (by omega)] at q
  omega
theorem il_f {x y : Int32} {a b : Nat} (ha : y = nI a) (hb : b < 1073741824) (hab : a ≤ b) (h : (decide (y ≤ x) && decide (x ≤ nI b)) = false) : ixN x (b + 1) = none ∨ ∃ j, j < a ∧ ixN x (b + 1) = some j := by
  have q := and_f h
  rw [le_i, le_i, ha, nI_toInt (by omega), nI_toInt (by omega)] at q
  by_cases g : 0 ≤ x.toInt ∧ x.toInt < ((b + 1 : Nat) : Int)
  · right
    obtain ⟨j, h1, h2, h3⟩ := ix_of (x := x) (m := b + 1) (by omega) g
    rw [h2, nI_toInt (by omega)] at q
    exact ⟨j, by omega, h3⟩
  · exact Or.inl (ix_none g)
theorem oSu_le {nm a b : Nat} {x y z v : Int32} (h1 : ixN z 31 = some a) (h2 : ixN v 31 = none ∨ ∃ j, j < a ∧ ixN v 31 = some j) : oSu nm x y z v = none := by
  unfold oSu
  cases rowO nm x y with
  | none => rfl
  | some t =>
    show (ixN z 31).bind _ = none
    rw [h1]
    show (ixN v 31).bind _ = none
    rcases h2 with h2 | ⟨j, h3, h2⟩ <;> rw [h2]
    · rfl
    · show (if _ then _ else _) = _
      rw [if_neg (by omega)]
theorem oTy_le {nm a b : Nat} {x y z v g : Int32} (h1 : ixN v 7 = some a) (h2 : ixN g 7 = none ∨ ∃ j, j < a ∧ ixN g 7 = some j) : oTy nm x y z v g = none := by
  unfold oTy
  cases rowO nm x y with
  | none => rfl
  | some t =>
    show (ixN z 6).bind _ = none
    cases ixN z 6 with
    | none => rfl
    | some c =>
      show (ixN v 7).bind _ = none
      rw [h1]
      show (ixN g 7).bind _ = none
      rcases h2 with h2 | ⟨j, h3, h2⟩ <;> rw [h2]
      · rfl
      · show (if _ then _ else _) = _
        rw [if_neg (by omega)]
set_option maxHeartbeats 4000000 in
set_option maxRecDepth 100000 in
theorem c_M_table (l : Launch) (D : va_G) (cI : ClassId) (sz : Nat) (h : Nat) (ad : Nat → Nat) (nm : Nat) (mk : Nat) (rd : Nat) (cs : Nat) (ar : Nat → Nat → Nat) (x : Int32) (y : Int32) (hcs : cs ≤ 10) (hnm : nm ≤ 6) : MetI l y_M_table b_M_table 3 (some .int) { frames := 2, cells := 0, slots := 0, locals := 47 } D cI [] sz [(h, .inr (10, oM ad nm mk rd cs)), (ad 10, .inl (cI, 10, .inl (nA (ar 10)))), (ad 11, .inl (cI, 10, .inl (nA (ar 11)))), (ad 12, .inl (cI, 10, .inl (nA (ar 12)))), (ad 13, .inl (cI, 60, .inl (nA (ar 13)))), (ad 14, .inl (cI, 10, .inl (nA (ar 14)))), (ad 15, .inl (cI, 10, .inl (nA (ar 15)))), (ad 16, .inl (cI, 10, .inl (nA (ar 16)))), (ad 17, .inl (cI, 10, .inl (nA (ar 17))))] [.ref h, .int x, .int y] (fun (r : Int32) (u : Nat × (Nat → Nat → Nat)) => (r, u) = adS ar cs (oTa nm x y)) (fun u : Nat × (Nat → Nat → Nat) => [(h, .inr (10, oM ad nm mk rd u.1)), (ad 10, .inl (cI, 10, .inl (nA (u.2 10)))), (ad 11, .inl (cI, 10, .inl (nA (u.2 11)))), (ad 12, .inl (cI, 10, .inl (nA (u.2 12)))), (ad 13, .inl (cI, 60, .inl (nA (u.2 13)))), (ad 14, .inl (cI, 10, .inl (nA (u.2 14)))), (ad 15, .inl (cI, 10, .inl (nA (u.2 15)))), (ad 16, .inl (cI, 10, .inl (nA (u.2 16)))), (ad 17, .inl (cI, 10, .inl (nA (u.2 17))))]) := by
  refine enter (by decide) (Nat.le_of_ble_eq_true rfl) ?_
  intro p e s m below meth c A ls C0 hr hlk hnm hK hsz hA hAe hP hD hS hl
  have hx := C0.1
  have hb := C0.2.1
  have hl : lv_has ls 3 [(0, .ref h), (1, .int x), (2, .int y)] := hl
  refine lv_aload_n hx hb d_M_table_0 rfl (lv_at hl 0 rfl) ?_
  refine lv_iload_n hx hb d_M_table_1 rfl (lv_at hl 1 rfl) ?_
  refine lv_iload_n hx hb d_M_table_2 rfl (lv_at hl 2 rfl) ?_
  refine call_i (rm := { frames := 1, cells := 0, slots := 0, locals := 22 }) hS hP hD hA (spl_mk (wc := [(h, .inr (10, oM ad nm mk rd cs))]) (wr := [(ad 10, .inl (cI, 10, .inl (nA (ar 10)))), (ad 11, .inl (cI, 10, .inl (nA (ar 11)))), (ad 12, .inl (cI, 10, .inl (nA (ar 12)))), (ad 13, .inl (cI, 60, .inl (nA (ar 13)))), (ad 14, .inl (cI, 10, .inl (nA (ar 14)))), (ad 15, .inl (cI, 10, .inl (nA (ar 15)))), (ad 16, .inl (cI, 10, .inl (nA (ar 16)))), (ad 17, .inl (cI, 10, .inl (nA (ar 17))))]) [0] [1, 2, 3, 4, 5, 6, 7, 8] rfl rfl (by decide)) (run_v (n := 2) (As := [.int x, .int y]) (rest := []) (q0 := 0) (ci := 10) C0 (hK.sub [] rfl) (c_M_isRow l D cI s.heap.size h ad nm mk rd cs x y (by omega)) rfl rfl wt_766 wt_4 wt_763 wt_765 wp_18 (by decide +kernel) ⟨Nat.le_of_ble_eq_true rfl, Nat.le_of_ble_eq_true rfl⟩ rfl hl.1 rfl (Nat.le_of_ble_eq_true rfl) d_M_table_3 ⟨Nat.le_of_ble_eq_true rfl, Nat.le_of_ble_eq_true rfl⟩) (fun r_3 _u3 H locs hw_3 hP hD hS => ?_)
  have hP : va_P D cls [(ad 10, .inl (cI, 10, .inl (nA (ar 10)))), (ad 11, .inl (cI, 10, .inl (nA (ar 11)))), (ad 12, .inl (cI, 10, .inl (nA (ar 12)))), (ad 13, .inl (cI, 60, .inl (nA (ar 13)))), (ad 14, .inl (cI, 10, .inl (nA (ar 14)))), (ad 15, .inl (cI, 10, .inl (nA (ar 15)))), (ad 16, .inl (cI, 10, .inl (nA (ar 16)))), (ad 17, .inl (cI, 10, .inl (nA (ar 17)))), (h, .inr (10, oM ad nm mk rd cs))] H := hP
  have hD : va_D A [(ad 10, .inl (cI, 10, .inl (nA (ar 10)))), (ad 11, .inl (cI, 10, .inl (nA (ar 11)))), (ad 12, .inl (cI, 10, .inl (nA (ar 12)))), (ad 13, .inl (cI, 60, .inl (nA (ar 13)))), (ad 14, .inl (cI, 10, .inl (nA (ar 14)))), (ad 15, .inl (cI, 10, .inl (nA (ar 15)))), (ad 16, .inl (cI, 10, .inl (nA (ar 16)))), (ad 17, .inl (cI, 10, .inl (nA (ar 17)))), (h, .inr (10, oM ad nm mk rd cs))] := hD
  subst hw_3
  refine y_eq (tgt := 22) hx hb d_M_table_6 (by decide) (fun c_6 => ?_) (fun c_6 => ?_)
  · have hro := rowO_n c_6
    refine lv_bipush (v := (-2)) hx hb d_M_table_22 (by decide) ?_
    exact ret_i C0 hr hlk hAe hS (cs, ar) (adS_n (by unfold oTa; rw [hro]; rfl)) (hP.sub [8, 0, 1, 2, 3, 4, 5, 6, 7] rfl) (hD.sub [8, 0, 1, 2, 3, 4, 5, 6, 7] (by decide) rfl) rfl (Nat.le_of_ble_eq_true rfl) (Nat.le_of_ble_eq_true rfl) d_M_table_24
  · obtain ⟨q, w, hq, hxq, hyw, hwq, hw18, hrw, hro⟩ := rowO_s c_6
    have hl : lv_has ls 3 [(0, .ref h), (1, .int (nI q)), (2, .int y)] := by rw [← hxq]; exact hl
    have hl : lv_has ls 3 [(0, .ref h), (1, .int (nI q)), (2, .int (nI w))] := by rw [← hyw]; exact hl
    refine lv_aload_n hx hb d_M_table_9 rfl (lv_at hl 0 rfl) ?_
    refine lv_iconst (v := (nI 0)) hx hb d_M_table_10 (by decide) ?_
    refine lv_iload_n hx hb d_M_table_11 rfl (lv_at hl 1 rfl) ?_
    refine lv_iload_n hx hb d_M_table_12 rfl (lv_at hl 2 rfl) ?_
    refine lv_iconst (v := (nI 0)) hx hb d_M_table_13 (by decide) ?_
    refine lv_iconst (v := (nI 0)) hx hb d_M_table_14 (by decide) ?_
    refine lv_iconst (v := (nI 0)) hx hb d_M_table_15 (by decide) ?_
    refine call_i (rm := { frames := 0, cells := 0, slots := 0, locals := 0 }) hS hP hD hA (spl_mk (wc := [(h, .inr (10, oM ad nm mk rd cs)), (ad 10, .inl (cI, 10, .inl (nA (ar 10)))), (ad 11, .inl (cI, 10, .inl (nA (ar 11)))), (ad 12, .inl (cI, 10, .inl (nA (ar 12)))), (ad 13, .inl (cI, 60, .inl (nA (ar 13)))), (ad 14, .inl (cI, 10, .inl (nA (ar 14)))), (ad 15, .inl (cI, 10, .inl (nA (ar 15)))), (ad 16, .inl (cI, 10, .inl (nA (ar 16)))), (ad 17, .inl (cI, 10, .inl (nA (ar 17))))]) (wr := []) [8, 0, 1, 2, 3, 4, 5, 6, 7] [] rfl rfl (by decide)) (run_v (n := 6) (As := [.int (nI 0), .int (nI q), .int (nI w), .int (nI 0), .int (nI 0), .int (nI 0)]) (rest := []) (q0 := 0) (ci := 10) C0 (hK.sub [] rfl) (c_M_add l D cI H.size h ad nm mk rd cs ar 0 q w 0 0 0 (by omega) (by omega) (by omega)) rfl rfl wt_770 wt_4 wt_767 wt_769 wp_19 (by decide +kernel) ⟨Nat.le_of_ble_eq_true rfl, Nat.le_of_ble_eq_true rfl⟩ rfl hl.1 rfl (Nat.le_of_ble_eq_true rfl) d_M_table_16 ⟨Nat.le_of_ble_eq_true rfl, Nat.le_of_ble_eq_true rfl⟩) (fun r_16 u_16 H locs hw_16 hP hD hS => ?_)
    have hP : va_P D cls [(h, .inr (10, oM ad nm mk rd u_16.1)), (ad 10, .inl (cI, 10, .inl (nA (u_16.2 10)))), (ad 11, .inl (cI, 10, .inl (nA (u_16.2 11)))), (ad 12, .inl (cI, 10, .inl (nA (u_16.2 12)))), (ad 13, .inl (cI, 60, .inl (nA (u_16.2 13)))), (ad 14, .inl (cI, 10, .inl (nA (u_16.2 14)))), (ad 15, .inl (cI, 10, .inl (nA (u_16.2 15)))), (ad 16, .inl (cI, 10, .inl (nA (u_16.2 16)))), (ad 17, .inl (cI, 10, .inl (nA (u_16.2 17))))] H := hP
    have hD : va_D A [(h, .inr (10, oM ad nm mk rd u_16.1)), (ad 10, .inl (cI, 10, .inl (nA (u_16.2 10)))), (ad 11, .inl (cI, 10, .inl (nA (u_16.2 11)))), (ad 12, .inl (cI, 10, .inl (nA (u_16.2 12)))), (ad 13, .inl (cI, 60, .inl (nA (u_16.2 13)))), (ad 14, .inl (cI, 10, .inl (nA (u_16.2 14)))), (ad 15, .inl (cI, 10, .inl (nA (u_16.2 15)))), (ad 16, .inl (cI, 10, .inl (nA (u_16.2 16)))), (ad 17, .inl (cI, 10, .inl (nA (u_16.2 17))))] := hD
    refine lv_goto (tgt := 24) hx hb d_M_table_19 (by decide) ?_
    exact ret_i C0 hr hlk hAe hS u_16 (adS_s (by unfold oTa; rw [hro]; rfl) hw_16) hP hD rfl (Nat.le_of_ble_eq_true rfl) (Nat.le_of_ble_eq_true rfl) d_M_table_24
set_option maxHeartbeats 4000000 in
set_option maxRecDepth 100000 in
theorem c_M_machine (l : Launch) (D : va_G) (cI : ClassId) (sz : Nat) (h : Nat) (ad : Nat → Nat) (nm : Nat) (mk : Nat) (rd : Nat) (cs : Nat) (ar : Nat → Nat → Nat) (x : Int32) (y : Int32) (z : Int32) (v : Int32) (hcs : cs ≤ 10) (hnm : nm ≤ 6) : MetI l y_M_machine b_M_machine 5 (some .int) { frames := 2, cells := 0, slots := 0, locals := 47 } D cI [] sz [(h, .inr (10, oM ad nm mk rd cs)), (ad 10, .inl (cI, 10, .inl (nA (ar 10)))), (ad 11, .inl (cI, 10, .inl (nA (ar 11)))), (ad 12, .inl (cI, 10, .inl (nA (ar 12)))), (ad 13, .inl (cI, 60, .inl (nA (ar 13)))), (ad 14, .inl (cI, 10, .inl (nA (ar 14)))), (ad 15, .inl (cI, 10, .inl (nA (ar 15)))), (ad 16, .inl (cI, 10, .inl (nA (ar 16)))), (ad 17, .inl (cI, 10, .inl (nA (ar 17))))] [.ref h, .int x, .int y, .int z, .int v] (fun (r : Int32) (u : Nat × (Nat → Nat → Nat)) => (r, u) = adS ar cs (oMa nm x y z v)) (fun u : Nat × (Nat → Nat → Nat) => [(h, .inr (10, oM ad nm mk rd u.1)), (ad 10, .inl (cI, 10, .inl (nA (u.2 10)))), (ad 11, .inl (cI, 10, .inl (nA (u.2 11)))), (ad 12, .inl (cI, 10, .inl (nA (u.2 12)))), (ad 13, .inl (cI, 60, .inl (nA (u.2 13)))), (ad 14, .inl (cI, 10, .inl (nA (u.2 14)))), (ad 15, .inl (cI, 10, .inl (nA (u.2 15)))), (ad 16, .inl (cI, 10, .inl (nA (u.2 16)))), (ad 17, .inl (cI, 10, .inl (nA (u.2 17))))]) := by
  refine enter (by decide) (Nat.le_of_ble_eq_true rfl) ?_
  intro p e s m below meth c A ls C0 hr hlk hnm hK hsz hA hAe hP hD hS hl
  have hx := C0.1
  have hb := C0.2.1
  have hl : lv_has ls 5 [(0, .ref h), (1, .int x), (2, .int y), (3, .int z), (4, .int v)] := hl
  refine lv_aload_n hx hb d_M_machine_0 rfl (lv_at hl 0 rfl) ?_
  refine lv_iload_n hx hb d_M_machine_1 rfl (lv_at hl 1 rfl) ?_
  refine lv_iload_n hx hb d_M_machine_2 rfl (lv_at hl 2 rfl) ?_
  refine call_i (rm := { frames := 1, cells := 0, slots := 0, locals := 22 }) hS hP hD hA (spl_mk (wc := [(h, .inr (10, oM ad nm mk rd cs))]) (wr := [(ad 10, .inl (cI, 10, .inl (nA (ar 10)))), (ad 11, .inl (cI, 10, .inl (nA (ar 11)))), (ad 12, .inl (cI, 10, .inl (nA (ar 12)))), (ad 13, .inl (cI, 60, .inl (nA (ar 13)))), (ad 14, .inl (cI, 10, .inl (nA (ar 14)))), (ad 15, .inl (cI, 10, .inl (nA (ar 15)))), (ad 16, .inl (cI, 10, .inl (nA (ar 16)))), (ad 17, .inl (cI, 10, .inl (nA (ar 17))))]) [0] [1, 2, 3, 4, 5, 6, 7, 8] rfl rfl (by decide)) (run_v (n := 2) (As := [.int x, .int y]) (rest := []) (q0 := 0) (ci := 10) C0 (hK.sub [] rfl) (c_M_isRow l D cI s.heap.size h ad nm mk rd cs x y (by omega)) rfl rfl wt_766 wt_4 wt_763 wt_765 wp_18 (by decide +kernel) ⟨Nat.le_of_ble_eq_true rfl, Nat.le_of_ble_eq_true rfl⟩ rfl hl.1 rfl (Nat.le_of_ble_eq_true rfl) d_M_machine_3 ⟨Nat.le_of_ble_eq_true rfl, Nat.le_of_ble_eq_true rfl⟩) (fun r_3 _u3 H locs hw_3 hP hD hS => ?_)
  have hP : va_P D cls [(ad 10, .inl (cI, 10, .inl (nA (ar 10)))), (ad 11, .inl (cI, 10, .inl (nA (ar 11)))), (ad 12, .inl (cI, 10, .inl (nA (ar 12)))), (ad 13, .inl (cI, 60, .inl (nA (ar 13)))), (ad 14, .inl (cI, 10, .inl (nA (ar 14)))), (ad 15, .inl (cI, 10, .inl (nA (ar 15)))), (ad 16, .inl (cI, 10, .inl (nA (ar 16)))), (ad 17, .inl (cI, 10, .inl (nA (ar 17)))), (h, .inr (10, oM ad nm mk rd cs))] H := hP
  have hD : va_D A [(ad 10, .inl (cI, 10, .inl (nA (ar 10)))), (ad 11, .inl (cI, 10, .inl (nA (ar 11)))), (ad 12, .inl (cI, 10, .inl (nA (ar 12)))), (ad 13, .inl (cI, 60, .inl (nA (ar 13)))), (ad 14, .inl (cI, 10, .inl (nA (ar 14)))), (ad 15, .inl (cI, 10, .inl (nA (ar 15)))), (ad 16, .inl (cI, 10, .inl (nA (ar 16)))), (ad 17, .inl (cI, 10, .inl (nA (ar 17)))), (h, .inr (10, oM ad nm mk rd cs))] := hD
  subst hw_3
  refine y_eq (tgt := 45) hx hb d_M_machine_6 (by decide) (fun c_6 => ?_) (fun c_6 => ?_)
  · have hro := rowO_n c_6
    refine lv_bipush (v := (-2)) hx hb d_M_machine_45 (by decide) ?_
    exact ret_i C0 hr hlk hAe hS (cs, ar) (adS_n (by unfold oMa; rw [hro]; first | rfl | (show (ixN z 64).bind _ = _; rw [hiaa]; rfl) | (show (ixN z 64).bind _ = _; rw [hiaa]; show (ixN v 1001).map _ = _; rw [hibb]; rfl))) (hP.sub [8, 0, 1, 2, 3, 4, 5, 6, 7] rfl) (hD.sub [8, 0, 1, 2, 3, 4, 5, 6, 7] (by decide) rfl) rfl (Nat.le_of_ble_eq_true rfl) (Nat.le_of_ble_eq_true rfl) d_M_machine_47
  · obtain ⟨q, w, hq, hxq, hyw, hwq, hw18, hrw, hro⟩ := rowO_s c_6
    have hl : lv_has ls 5 [(0, .ref h), (1, .int (nI q)), (2, .int y), (3, .int z), (4, .int v)] := by rw [← hxq]; exact hl
    have hl : lv_has ls 5 [(0, .ref h), (1, .int (nI q)), (2, .int (nI w)), (3, .int z), (4, .int v)] := by rw [← hyw]; exact hl
    refine lv_iload_n hx hb d_M_machine_9 rfl (lv_at hl 3 rfl) ?_
    refine lv_iconst (v := (nI 0)) hx hb d_M_machine_10 (by decide) ?_
    refine lv_bipush (v := (nI 63)) hx hb d_M_machine_11 (by decide) ?_
    refine call_i (rm := { frames := 0, cells := 0, slots := 0, locals := 0 }) hS hP hD hA (spl_mk (wc := []) (wr := [(ad 10, .inl (cI, 10, .inl (nA (ar 10)))), (ad 11, .inl (cI, 10, .inl (nA (ar 11)))), (ad 12, .inl (cI, 10, .inl (nA (ar 12)))), (ad 13, .inl (cI, 60, .inl (nA (ar 13)))), (ad 14, .inl (cI, 10, .inl (nA (ar 14)))), (ad 15, .inl (cI, 10, .inl (nA (ar 15)))), (ad 16, .inl (cI, 10, .inl (nA (ar 16)))), (ad 17, .inl (cI, 10, .inl (nA (ar 17)))), (h, .inr (10, oM ad nm mk rd cs))]) [] [0, 1, 2, 3, 4, 5, 6, 7, 8] rfl rfl (by decide)) (run_s (n := 3) (As := [.int z, .int (nI 0), .int (nI 63)]) (rest := []) C0 (hK.sub [] rfl) (c_M_isIn l D cI H.size z (nI 0) (nI 63)) wt_758 wt_4 wt_756 wt_757 (by decide +kernel) ⟨Nat.le_of_ble_eq_true rfl, Nat.le_of_ble_eq_true rfl⟩ rfl hl.1 rfl (Nat.le_of_ble_eq_true rfl) d_M_machine_13 ⟨Nat.le_of_ble_eq_true rfl, Nat.le_of_ble_eq_true rfl⟩) (fun r_13 _u13 H locs hw_13 hP hD hS => ?_)
    have hP : va_P D cls [(ad 10, .inl (cI, 10, .inl (nA (ar 10)))), (ad 11, .inl (cI, 10, .inl (nA (ar 11)))), (ad 12, .inl (cI, 10, .inl (nA (ar 12)))), (ad 13, .inl (cI, 60, .inl (nA (ar 13)))), (ad 14, .inl (cI, 10, .inl (nA (ar 14)))), (ad 15, .inl (cI, 10, .inl (nA (ar 15)))), (ad 16, .inl (cI, 10, .inl (nA (ar 16)))), (ad 17, .inl (cI, 10, .inl (nA (ar 17)))), (h, .inr (10, oM ad nm mk rd cs))] H := hP
    have hD : va_D A [(ad 10, .inl (cI, 10, .inl (nA (ar 10)))), (ad 11, .inl (cI, 10, .inl (nA (ar 11)))), (ad 12, .inl (cI, 10, .inl (nA (ar 12)))), (ad 13, .inl (cI, 60, .inl (nA (ar 13)))), (ad 14, .inl (cI, 10, .inl (nA (ar 14)))), (ad 15, .inl (cI, 10, .inl (nA (ar 15)))), (ad 16, .inl (cI, 10, .inl (nA (ar 16)))), (ad 17, .inl (cI, 10, .inl (nA (ar 17)))), (h, .inr (10, oM ad nm mk rd cs))] := hD
    subst hw_13
    refine y_eq (tgt := 45) hx hb d_M_machine_16 (by decide) (fun c_16 => ?_) (fun c_16 => ?_)
    · have hiaa := ik_f (by decide) c_16
      refine lv_bipush (v := (-2)) hx hb d_M_machine_45 (by decide) ?_
      exact ret_i C0 hr hlk hAe hS (cs, ar) (adS_n (by unfold oMa; rw [hro]; first | rfl | (show (ixN z 64).bind _ = _; rw [hiaa]; rfl) | (show (ixN z 64).bind _ = _; rw [hiaa]; show (ixN v 1001).map _ = _; rw [hibb]; rfl))) (hP.sub [8, 0, 1, 2, 3, 4, 5, 6, 7] rfl) (hD.sub [8, 0, 1, 2, 3, 4, 5, 6, 7] (by decide) rfl) rfl (Nat.le_of_ble_eq_true rfl) (Nat.le_of_ble_eq_true rfl) d_M_machine_47
    · obtain ⟨aa, hjaa, hxaa, hiaa⟩ := ik_t (by decide) c_16
      have hl : lv_has ls 5 [(0, .ref h), (1, .int (nI q)), (2, .int (nI w)), (3, .int (nI aa)), (4, .int v)] := by rw [← hxaa]; exact hl
      refine lv_iload hx hb d_M_machine_19 (lv_at hl 4 rfl) ?_
      refine lv_iconst (v := (nI 0)) hx hb d_M_machine_21 (by decide) ?_
      refine lv_sipush (v := (nI 1000)) hx hb d_M_machine_22 (by decide) ?_
      refine call_i (rm := { frames := 0, cells := 0, slots := 0, locals := 0 }) hS hP hD hA (spl_mk (wc := []) (wr := [(ad 10, .inl (cI, 10, .inl (nA (ar 10)))), (ad 11, .inl (cI, 10, .inl (nA (ar 11)))), (ad 12, .inl (cI, 10, .inl (nA (ar 12)))), (ad 13, .inl (cI, 60, .inl (nA (ar 13)))), (ad 14, .inl (cI, 10, .inl (nA (ar 14)))), (ad 15, .inl (cI, 10, .inl (nA (ar 15)))), (ad 16, .inl (cI, 10, .inl (nA (ar 16)))), (ad 17, .inl (cI, 10, .inl (nA (ar 17)))), (h, .inr (10, oM ad nm mk rd cs))]) [] [0, 1, 2, 3, 4, 5, 6, 7, 8] rfl rfl (by decide)) (run_s (n := 3) (As := [.int v, .int (nI 0), .int (nI 1000)]) (rest := []) C0 (hK.sub [] rfl) (c_M_isIn l D cI H.size v (nI 0) (nI 1000)) wt_758 wt_4 wt_756 wt_757 (by decide +kernel) ⟨Nat.le_of_ble_eq_true rfl, Nat.le_of_ble_eq_true rfl⟩ rfl hl.1 rfl (Nat.le_of_ble_eq_true rfl) d_M_machine_25 ⟨Nat.le_of_ble_eq_true rfl, Nat.le_of_ble_eq_true rfl⟩) (fun r_25 _u25 H locs hw_25 hP hD hS => ?_)
      have hP : va_P D cls [(ad 10, .inl (cI, 10, .inl (nA (ar 10)))), (ad 11, .inl (cI, 10, .inl (nA (ar 11)))), (ad 12, .inl (cI, 10, .inl (nA (ar 12)))), (ad 13, .inl (cI, 60, .inl (nA (ar 13)))), (ad 14, .inl (cI, 10, .inl (nA (ar 14)))), (ad 15, .inl (cI, 10, .inl (nA (ar 15)))), (ad 16, .inl (cI, 10, .inl (nA (ar 16)))), (ad 17, .inl (cI, 10, .inl (nA (ar 17)))), (h, .inr (10, oM ad nm mk rd cs))] H := hP
      have hD : va_D A [(ad 10, .inl (cI, 10, .inl (nA (ar 10)))), (ad 11, .inl (cI, 10, .inl (nA (ar 11)))), (ad 12, .inl (cI, 10, .inl (nA (ar 12)))), (ad 13, .inl (cI, 60, .inl (nA (ar 13)))), (ad 14, .inl (cI, 10, .inl (nA (ar 14)))), (ad 15, .inl (cI, 10, .inl (nA (ar 15)))), (ad 16, .inl (cI, 10, .inl (nA (ar 16)))), (ad 17, .inl (cI, 10, .inl (nA (ar 17)))), (h, .inr (10, oM ad nm mk rd cs))] := hD
      subst hw_25
      refine y_eq (tgt := 45) hx hb d_M_machine_28 (by decide) (fun c_28 => ?_) (fun c_28 => ?_)
      · have hibb := ik_f (by decide) c_28
        refine lv_bipush (v := (-2)) hx hb d_M_machine_45 (by decide) ?_
        exact ret_i C0 hr hlk hAe hS (cs, ar) (adS_n (by unfold oMa; rw [hro]; first | rfl | (show (ixN z 64).bind _ = _; rw [hiaa]; rfl) | (show (ixN z 64).bind _ = _; rw [hiaa]; show (ixN v 1001).map _ = _; rw [hibb]; rfl))) (hP.sub [8, 0, 1, 2, 3, 4, 5, 6, 7] rfl) (hD.sub [8, 0, 1, 2, 3, 4, 5, 6, 7] (by decide) rfl) rfl (Nat.le_of_ble_eq_true rfl) (Nat.le_of_ble_eq_true rfl) d_M_machine_47
      · obtain ⟨bb, hjbb, hxbb, hibb⟩ := ik_t (by decide) c_28
        have hl : lv_has ls 5 [(0, .ref h), (1, .int (nI q)), (2, .int (nI w)), (3, .int (nI aa)), (4, .int (nI bb))] := by rw [← hxbb]; exact hl
        refine lv_aload_n hx hb d_M_machine_31 rfl (lv_at hl 0 rfl) ?_
        refine lv_iconst (v := (nI 1)) hx hb d_M_machine_32 (by decide) ?_
        refine lv_iload_n hx hb d_M_machine_33 rfl (lv_at hl 1 rfl) ?_
        refine lv_iload_n hx hb d_M_machine_34 rfl (lv_at hl 2 rfl) ?_
        refine lv_iload_n hx hb d_M_machine_35 rfl (lv_at hl 3 rfl) ?_
        refine lv_iload hx hb d_M_machine_36 (lv_at hl 4 rfl) ?_
        refine lv_iconst (v := (nI 0)) hx hb d_M_machine_38 (by decide) ?_
        refine call_i (rm := { frames := 0, cells := 0, slots := 0, locals := 0 }) hS hP hD hA (spl_mk (wc := [(h, .inr (10, oM ad nm mk rd cs)), (ad 10, .inl (cI, 10, .inl (nA (ar 10)))), (ad 11, .inl (cI, 10, .inl (nA (ar 11)))), (ad 12, .inl (cI, 10, .inl (nA (ar 12)))), (ad 13, .inl (cI, 60, .inl (nA (ar 13)))), (ad 14, .inl (cI, 10, .inl (nA (ar 14)))), (ad 15, .inl (cI, 10, .inl (nA (ar 15)))), (ad 16, .inl (cI, 10, .inl (nA (ar 16)))), (ad 17, .inl (cI, 10, .inl (nA (ar 17))))]) (wr := []) [8, 0, 1, 2, 3, 4, 5, 6, 7] [] rfl rfl (by decide)) (run_v (n := 6) (As := [.int (nI 1), .int (nI q), .int (nI w), .int (nI aa), .int (nI bb), .int (nI 0)]) (rest := []) (q0 := 0) (ci := 10) C0 (hK.sub [] rfl) (c_M_add l D cI H.size h ad nm mk rd cs ar 1 q w aa bb 0 (by omega) (by omega) (by omega)) rfl rfl wt_770 wt_4 wt_767 wt_769 wp_19 (by decide +kernel) ⟨Nat.le_of_ble_eq_true rfl, Nat.le_of_ble_eq_true rfl⟩ rfl hl.1 rfl (Nat.le_of_ble_eq_true rfl) d_M_machine_39 ⟨Nat.le_of_ble_eq_true rfl, Nat.le_of_ble_eq_true rfl⟩) (fun r_39 u_39 H locs hw_39 hP hD hS => ?_)
        have hP : va_P D cls [(h, .inr (10, oM ad nm mk rd u_39.1)), (ad 10, .inl (cI, 10, .inl (nA (u_39.2 10)))), (ad 11, .inl (cI, 10, .inl (nA (u_39.2 11)))), (ad 12, .inl (cI, 10, .inl (nA (u_39.2 12)))), (ad 13, .inl (cI, 60, .inl (nA (u_39.2 13)))), (ad 14, .inl (cI, 10, .inl (nA (u_39.2 14)))), (ad 15, .inl (cI, 10, .inl (nA (u_39.2 15)))), (ad 16, .inl (cI, 10, .inl (nA (u_39.2 16)))), (ad 17, .inl (cI, 10, .inl (nA (u_39.2 17))))] H := hP
        have hD : va_D A [(h, .inr (10, oM ad nm mk rd u_39.1)), (ad 10, .inl (cI, 10, .inl (nA (u_39.2 10)))), (ad 11, .inl (cI, 10, .inl (nA (u_39.2 11)))), (ad 12, .inl (cI, 10, .inl (nA (u_39.2 12)))), (ad 13, .inl (cI, 60, .inl (nA (u_39.2 13)))), (ad 14, .inl (cI, 10, .inl (nA (u_39.2 14)))), (ad 15, .inl (cI, 10, .inl (nA (u_39.2 15)))), (ad 16, .inl (cI, 10, .inl (nA (u_39.2 16)))), (ad 17, .inl (cI, 10, .inl (nA (u_39.2 17))))] := hD
        refine lv_goto (tgt := 47) hx hb d_M_machine_42 (by decide) ?_
        exact ret_i C0 hr hlk hAe hS u_39 (adS_s (by unfold oMa; rw [hro]; show (ixN z 64).bind _ = _; rw [hiaa]; show (ixN v 1001).map _ = _; rw [hibb]; rfl) hw_39) hP hD rfl (Nat.le_of_ble_eq_true rfl) (Nat.le_of_ble_eq_true rfl) d_M_machine_47
set_option maxHeartbeats 4000000 in
set_option maxRecDepth 100000 in
theorem c_M_sum (l : Launch) (D : va_G) (cI : ClassId) (sz : Nat) (h : Nat) (ad : Nat → Nat) (nm : Nat) (mk : Nat) (rd : Nat) (cs : Nat) (ar : Nat → Nat → Nat) (x : Int32) (y : Int32) (z : Int32) (v : Int32) (hcs : cs ≤ 10) (hnm : nm ≤ 6) : MetI l y_M_sum b_M_sum 5 (some .int) { frames := 2, cells := 0, slots := 0, locals := 47 } D cI [] sz [(h, .inr (10, oM ad nm mk rd cs)), (ad 10, .inl (cI, 10, .inl (nA (ar 10)))), (ad 11, .inl (cI, 10, .inl (nA (ar 11)))), (ad 12, .inl (cI, 10, .inl (nA (ar 12)))), (ad 13, .inl (cI, 60, .inl (nA (ar 13)))), (ad 14, .inl (cI, 10, .inl (nA (ar 14)))), (ad 15, .inl (cI, 10, .inl (nA (ar 15)))), (ad 16, .inl (cI, 10, .inl (nA (ar 16)))), (ad 17, .inl (cI, 10, .inl (nA (ar 17))))] [.ref h, .int x, .int y, .int z, .int v] (fun (r : Int32) (u : Nat × (Nat → Nat → Nat)) => (r, u) = adS ar cs (oSu nm x y z v)) (fun u : Nat × (Nat → Nat → Nat) => [(h, .inr (10, oM ad nm mk rd u.1)), (ad 10, .inl (cI, 10, .inl (nA (u.2 10)))), (ad 11, .inl (cI, 10, .inl (nA (u.2 11)))), (ad 12, .inl (cI, 10, .inl (nA (u.2 12)))), (ad 13, .inl (cI, 60, .inl (nA (u.2 13)))), (ad 14, .inl (cI, 10, .inl (nA (u.2 14)))), (ad 15, .inl (cI, 10, .inl (nA (u.2 15)))), (ad 16, .inl (cI, 10, .inl (nA (u.2 16)))), (ad 17, .inl (cI, 10, .inl (nA (u.2 17))))]) := by
  refine enter (by decide) (Nat.le_of_ble_eq_true rfl) ?_
  intro p e s m below meth c A ls C0 hr hlk hnm hK hsz hA hAe hP hD hS hl
  have hx := C0.1
  have hb := C0.2.1
  have hl : lv_has ls 5 [(0, .ref h), (1, .int x), (2, .int y), (3, .int z), (4, .int v)] := hl
  refine lv_aload_n hx hb d_M_sum_0 rfl (lv_at hl 0 rfl) ?_
  refine lv_iload_n hx hb d_M_sum_1 rfl (lv_at hl 1 rfl) ?_
  refine lv_iload_n hx hb d_M_sum_2 rfl (lv_at hl 2 rfl) ?_
  refine call_i (rm := { frames := 1, cells := 0, slots := 0, locals := 22 }) hS hP hD hA (spl_mk (wc := [(h, .inr (10, oM ad nm mk rd cs))]) (wr := [(ad 10, .inl (cI, 10, .inl (nA (ar 10)))), (ad 11, .inl (cI, 10, .inl (nA (ar 11)))), (ad 12, .inl (cI, 10, .inl (nA (ar 12)))), (ad 13, .inl (cI, 60, .inl (nA (ar 13)))), (ad 14, .inl (cI, 10, .inl (nA (ar 14)))), (ad 15, .inl (cI, 10, .inl (nA (ar 15)))), (ad 16, .inl (cI, 10, .inl (nA (ar 16)))), (ad 17, .inl (cI, 10, .inl (nA (ar 17))))]) [0] [1, 2, 3, 4, 5, 6, 7, 8] rfl rfl (by decide)) (run_v (n := 2) (As := [.int x, .int y]) (rest := []) (q0 := 0) (ci := 10) C0 (hK.sub [] rfl) (c_M_isRow l D cI s.heap.size h ad nm mk rd cs x y (by omega)) rfl rfl wt_766 wt_4 wt_763 wt_765 wp_18 (by decide +kernel) ⟨Nat.le_of_ble_eq_true rfl, Nat.le_of_ble_eq_true rfl⟩ rfl hl.1 rfl (Nat.le_of_ble_eq_true rfl) d_M_sum_3 ⟨Nat.le_of_ble_eq_true rfl, Nat.le_of_ble_eq_true rfl⟩) (fun r_3 _u3 H locs hw_3 hP hD hS => ?_)
  have hP : va_P D cls [(ad 10, .inl (cI, 10, .inl (nA (ar 10)))), (ad 11, .inl (cI, 10, .inl (nA (ar 11)))), (ad 12, .inl (cI, 10, .inl (nA (ar 12)))), (ad 13, .inl (cI, 60, .inl (nA (ar 13)))), (ad 14, .inl (cI, 10, .inl (nA (ar 14)))), (ad 15, .inl (cI, 10, .inl (nA (ar 15)))), (ad 16, .inl (cI, 10, .inl (nA (ar 16)))), (ad 17, .inl (cI, 10, .inl (nA (ar 17)))), (h, .inr (10, oM ad nm mk rd cs))] H := hP
  have hD : va_D A [(ad 10, .inl (cI, 10, .inl (nA (ar 10)))), (ad 11, .inl (cI, 10, .inl (nA (ar 11)))), (ad 12, .inl (cI, 10, .inl (nA (ar 12)))), (ad 13, .inl (cI, 60, .inl (nA (ar 13)))), (ad 14, .inl (cI, 10, .inl (nA (ar 14)))), (ad 15, .inl (cI, 10, .inl (nA (ar 15)))), (ad 16, .inl (cI, 10, .inl (nA (ar 16)))), (ad 17, .inl (cI, 10, .inl (nA (ar 17)))), (h, .inr (10, oM ad nm mk rd cs))] := hD
  subst hw_3
  refine y_eq (tgt := 44) hx hb d_M_sum_6 (by decide) (fun c_6 => ?_) (fun c_6 => ?_)
  · have hro := rowO_n c_6
    refine lv_bipush (v := (-2)) hx hb d_M_sum_44 (by decide) ?_
    exact ret_i C0 hr hlk hAe hS (cs, ar) (adS_n (by first | (unfold oSu; rw [hro]; rfl) | exact oSu_le (b := 0) hiaa hibb | (unfold oSu; rw [hro]; show (ixN z 31).bind _ = _; rw [hiaa]; rfl))) (hP.sub [8, 0, 1, 2, 3, 4, 5, 6, 7] rfl) (hD.sub [8, 0, 1, 2, 3, 4, 5, 6, 7] (by decide) rfl) rfl (Nat.le_of_ble_eq_true rfl) (Nat.le_of_ble_eq_true rfl) d_M_sum_46
  · obtain ⟨q, w, hq, hxq, hyw, hwq, hw18, hrw, hro⟩ := rowO_s c_6
    have hl : lv_has ls 5 [(0, .ref h), (1, .int (nI q)), (2, .int y), (3, .int z), (4, .int v)] := by rw [← hxq]; exact hl
    have hl : lv_has ls 5 [(0, .ref h), (1, .int (nI q)), (2, .int (nI w)), (3, .int z), (4, .int v)] := by rw [← hyw]; exact hl
    refine lv_iload_n hx hb d_M_sum_9 rfl (lv_at hl 3 rfl) ?_
    refine lv_iconst (v := (nI 0)) hx hb d_M_sum_10 (by decide) ?_
    refine lv_bipush (v := (nI 30)) hx hb d_M_sum_11 (by decide) ?_
    refine call_i (rm := { frames := 0, cells := 0, slots := 0, locals := 0 }) hS hP hD hA (spl_mk (wc := []) (wr := [(ad 10, .inl (cI, 10, .inl (nA (ar 10)))), (ad 11, .inl (cI, 10, .inl (nA (ar 11)))), (ad 12, .inl (cI, 10, .inl (nA (ar 12)))), (ad 13, .inl (cI, 60, .inl (nA (ar 13)))), (ad 14, .inl (cI, 10, .inl (nA (ar 14)))), (ad 15, .inl (cI, 10, .inl (nA (ar 15)))), (ad 16, .inl (cI, 10, .inl (nA (ar 16)))), (ad 17, .inl (cI, 10, .inl (nA (ar 17)))), (h, .inr (10, oM ad nm mk rd cs))]) [] [0, 1, 2, 3, 4, 5, 6, 7, 8] rfl rfl (by decide)) (run_s (n := 3) (As := [.int z, .int (nI 0), .int (nI 30)]) (rest := []) C0 (hK.sub [] rfl) (c_M_isIn l D cI H.size z (nI 0) (nI 30)) wt_758 wt_4 wt_756 wt_757 (by decide +kernel) ⟨Nat.le_of_ble_eq_true rfl, Nat.le_of_ble_eq_true rfl⟩ rfl hl.1 rfl (Nat.le_of_ble_eq_true rfl) d_M_sum_13 ⟨Nat.le_of_ble_eq_true rfl, Nat.le_of_ble_eq_true rfl⟩) (fun r_13 _u13 H locs hw_13 hP hD hS => ?_)
    have hP : va_P D cls [(ad 10, .inl (cI, 10, .inl (nA (ar 10)))), (ad 11, .inl (cI, 10, .inl (nA (ar 11)))), (ad 12, .inl (cI, 10, .inl (nA (ar 12)))), (ad 13, .inl (cI, 60, .inl (nA (ar 13)))), (ad 14, .inl (cI, 10, .inl (nA (ar 14)))), (ad 15, .inl (cI, 10, .inl (nA (ar 15)))), (ad 16, .inl (cI, 10, .inl (nA (ar 16)))), (ad 17, .inl (cI, 10, .inl (nA (ar 17)))), (h, .inr (10, oM ad nm mk rd cs))] H := hP
    have hD : va_D A [(ad 10, .inl (cI, 10, .inl (nA (ar 10)))), (ad 11, .inl (cI, 10, .inl (nA (ar 11)))), (ad 12, .inl (cI, 10, .inl (nA (ar 12)))), (ad 13, .inl (cI, 60, .inl (nA (ar 13)))), (ad 14, .inl (cI, 10, .inl (nA (ar 14)))), (ad 15, .inl (cI, 10, .inl (nA (ar 15)))), (ad 16, .inl (cI, 10, .inl (nA (ar 16)))), (ad 17, .inl (cI, 10, .inl (nA (ar 17)))), (h, .inr (10, oM ad nm mk rd cs))] := hD
    subst hw_13
    refine y_eq (tgt := 44) hx hb d_M_sum_16 (by decide) (fun c_16 => ?_) (fun c_16 => ?_)
    · have hiaa := ik_f (by decide) c_16
      refine lv_bipush (v := (-2)) hx hb d_M_sum_44 (by decide) ?_
      exact ret_i C0 hr hlk hAe hS (cs, ar) (adS_n (by first | (unfold oSu; rw [hro]; rfl) | exact oSu_le (b := 0) hiaa hibb | (unfold oSu; rw [hro]; show (ixN z 31).bind _ = _; rw [hiaa]; rfl))) (hP.sub [8, 0, 1, 2, 3, 4, 5, 6, 7] rfl) (hD.sub [8, 0, 1, 2, 3, 4, 5, 6, 7] (by decide) rfl) rfl (Nat.le_of_ble_eq_true rfl) (Nat.le_of_ble_eq_true rfl) d_M_sum_46
    · obtain ⟨aa, hjaa, hxaa, hiaa⟩ := ik_t (by decide) c_16
      have hl : lv_has ls 5 [(0, .ref h), (1, .int (nI q)), (2, .int (nI w)), (3, .int (nI aa)), (4, .int v)] := by rw [← hxaa]; exact hl
      refine lv_iload hx hb d_M_sum_19 (lv_at hl 4 rfl) ?_
      refine lv_iload_n hx hb d_M_sum_21 rfl (lv_at hl 3 rfl) ?_
      refine lv_bipush (v := (nI 30)) hx hb d_M_sum_22 (by decide) ?_
      refine call_i (rm := { frames := 0, cells := 0, slots := 0, locals := 0 }) hS hP hD hA (spl_mk (wc := []) (wr := [(ad 10, .inl (cI, 10, .inl (nA (ar 10)))), (ad 11, .inl (cI, 10, .inl (nA (ar 11)))), (ad 12, .inl (cI, 10, .inl (nA (ar 12)))), (ad 13, .inl (cI, 60, .inl (nA (ar 13)))), (ad 14, .inl (cI, 10, .inl (nA (ar 14)))), (ad 15, .inl (cI, 10, .inl (nA (ar 15)))), (ad 16, .inl (cI, 10, .inl (nA (ar 16)))), (ad 17, .inl (cI, 10, .inl (nA (ar 17)))), (h, .inr (10, oM ad nm mk rd cs))]) [] [0, 1, 2, 3, 4, 5, 6, 7, 8] rfl rfl (by decide)) (run_s (n := 3) (As := [.int v, .int (nI aa), .int (nI 30)]) (rest := []) C0 (hK.sub [] rfl) (c_M_isIn l D cI H.size v (nI aa) (nI 30)) wt_758 wt_4 wt_756 wt_757 (by decide +kernel) ⟨Nat.le_of_ble_eq_true rfl, Nat.le_of_ble_eq_true rfl⟩ rfl hl.1 rfl (Nat.le_of_ble_eq_true rfl) d_M_sum_24 ⟨Nat.le_of_ble_eq_true rfl, Nat.le_of_ble_eq_true rfl⟩) (fun r_24 _u24 H locs hw_24 hP hD hS => ?_)
      have hP : va_P D cls [(ad 10, .inl (cI, 10, .inl (nA (ar 10)))), (ad 11, .inl (cI, 10, .inl (nA (ar 11)))), (ad 12, .inl (cI, 10, .inl (nA (ar 12)))), (ad 13, .inl (cI, 60, .inl (nA (ar 13)))), (ad 14, .inl (cI, 10, .inl (nA (ar 14)))), (ad 15, .inl (cI, 10, .inl (nA (ar 15)))), (ad 16, .inl (cI, 10, .inl (nA (ar 16)))), (ad 17, .inl (cI, 10, .inl (nA (ar 17)))), (h, .inr (10, oM ad nm mk rd cs))] H := hP
      have hD : va_D A [(ad 10, .inl (cI, 10, .inl (nA (ar 10)))), (ad 11, .inl (cI, 10, .inl (nA (ar 11)))), (ad 12, .inl (cI, 10, .inl (nA (ar 12)))), (ad 13, .inl (cI, 60, .inl (nA (ar 13)))), (ad 14, .inl (cI, 10, .inl (nA (ar 14)))), (ad 15, .inl (cI, 10, .inl (nA (ar 15)))), (ad 16, .inl (cI, 10, .inl (nA (ar 16)))), (ad 17, .inl (cI, 10, .inl (nA (ar 17)))), (h, .inr (10, oM ad nm mk rd cs))] := hD
      subst hw_24
      refine y_eq (tgt := 44) hx hb d_M_sum_27 (by decide) (fun c_27 => ?_) (fun c_27 => ?_)
      · have hibb := il_f (a := aa) (b := 30) rfl (by decide) (by omega) c_27
        refine lv_bipush (v := (-2)) hx hb d_M_sum_44 (by decide) ?_
        exact ret_i C0 hr hlk hAe hS (cs, ar) (adS_n (by first | (unfold oSu; rw [hro]; rfl) | exact oSu_le (b := 0) hiaa hibb | (unfold oSu; rw [hro]; show (ixN z 31).bind _ = _; rw [hiaa]; rfl))) (hP.sub [8, 0, 1, 2, 3, 4, 5, 6, 7] rfl) (hD.sub [8, 0, 1, 2, 3, 4, 5, 6, 7] (by decide) rfl) rfl (Nat.le_of_ble_eq_true rfl) (Nat.le_of_ble_eq_true rfl) d_M_sum_46
      · obtain ⟨bb, hjbb, hxbb, hibb⟩ := il_t (a := aa) (b := 30) rfl (by decide) (by omega) c_27
        have hl : lv_has ls 5 [(0, .ref h), (1, .int (nI q)), (2, .int (nI w)), (3, .int (nI aa)), (4, .int (nI bb))] := by rw [← hxbb]; exact hl
        refine lv_aload_n hx hb d_M_sum_30 rfl (lv_at hl 0 rfl) ?_
        refine lv_iconst (v := (nI 4)) hx hb d_M_sum_31 (by decide) ?_
        refine lv_iload_n hx hb d_M_sum_32 rfl (lv_at hl 1 rfl) ?_
        refine lv_iload_n hx hb d_M_sum_33 rfl (lv_at hl 2 rfl) ?_
        refine lv_iload_n hx hb d_M_sum_34 rfl (lv_at hl 3 rfl) ?_
        refine lv_iload hx hb d_M_sum_35 (lv_at hl 4 rfl) ?_
        refine lv_iconst (v := (nI 0)) hx hb d_M_sum_37 (by decide) ?_
        refine call_i (rm := { frames := 0, cells := 0, slots := 0, locals := 0 }) hS hP hD hA (spl_mk (wc := [(h, .inr (10, oM ad nm mk rd cs)), (ad 10, .inl (cI, 10, .inl (nA (ar 10)))), (ad 11, .inl (cI, 10, .inl (nA (ar 11)))), (ad 12, .inl (cI, 10, .inl (nA (ar 12)))), (ad 13, .inl (cI, 60, .inl (nA (ar 13)))), (ad 14, .inl (cI, 10, .inl (nA (ar 14)))), (ad 15, .inl (cI, 10, .inl (nA (ar 15)))), (ad 16, .inl (cI, 10, .inl (nA (ar 16)))), (ad 17, .inl (cI, 10, .inl (nA (ar 17))))]) (wr := []) [8, 0, 1, 2, 3, 4, 5, 6, 7] [] rfl rfl (by decide)) (run_v (n := 6) (As := [.int (nI 4), .int (nI q), .int (nI w), .int (nI aa), .int (nI bb), .int (nI 0)]) (rest := []) (q0 := 0) (ci := 10) C0 (hK.sub [] rfl) (c_M_add l D cI H.size h ad nm mk rd cs ar 4 q w aa bb 0 (by omega) (by omega) (by omega)) rfl rfl wt_770 wt_4 wt_767 wt_769 wp_19 (by decide +kernel) ⟨Nat.le_of_ble_eq_true rfl, Nat.le_of_ble_eq_true rfl⟩ rfl hl.1 rfl (Nat.le_of_ble_eq_true rfl) d_M_sum_38 ⟨Nat.le_of_ble_eq_true rfl, Nat.le_of_ble_eq_true rfl⟩) (fun r_38 u_38 H locs hw_38 hP hD hS => ?_)
        have hP : va_P D cls [(h, .inr (10, oM ad nm mk rd u_38.1)), (ad 10, .inl (cI, 10, .inl (nA (u_38.2 10)))), (ad 11, .inl (cI, 10, .inl (nA (u_38.2 11)))), (ad 12, .inl (cI, 10, .inl (nA (u_38.2 12)))), (ad 13, .inl (cI, 60, .inl (nA (u_38.2 13)))), (ad 14, .inl (cI, 10, .inl (nA (u_38.2 14)))), (ad 15, .inl (cI, 10, .inl (nA (u_38.2 15)))), (ad 16, .inl (cI, 10, .inl (nA (u_38.2 16)))), (ad 17, .inl (cI, 10, .inl (nA (u_38.2 17))))] H := hP
        have hD : va_D A [(h, .inr (10, oM ad nm mk rd u_38.1)), (ad 10, .inl (cI, 10, .inl (nA (u_38.2 10)))), (ad 11, .inl (cI, 10, .inl (nA (u_38.2 11)))), (ad 12, .inl (cI, 10, .inl (nA (u_38.2 12)))), (ad 13, .inl (cI, 60, .inl (nA (u_38.2 13)))), (ad 14, .inl (cI, 10, .inl (nA (u_38.2 14)))), (ad 15, .inl (cI, 10, .inl (nA (u_38.2 15)))), (ad 16, .inl (cI, 10, .inl (nA (u_38.2 16)))), (ad 17, .inl (cI, 10, .inl (nA (u_38.2 17))))] := hD
        refine lv_goto (tgt := 46) hx hb d_M_sum_41 (by decide) ?_
        exact ret_i C0 hr hlk hAe hS u_38 (adS_s (by unfold oSu; rw [hro]; show (ixN z 31).bind _ = _; rw [hiaa]; show (ixN v 31).bind _ = _; rw [hibb]; show (if _ then _ else _) = _; rw [if_pos hjbb.1]) hw_38) hP hD rfl (Nat.le_of_ble_eq_true rfl) (Nat.le_of_ble_eq_true rfl) d_M_sum_46
set_option maxHeartbeats 4000000 in
set_option maxRecDepth 100000 in
theorem c_M_tally (l : Launch) (D : va_G) (cI : ClassId) (sz : Nat) (h : Nat) (ad : Nat → Nat) (nm : Nat) (mk : Nat) (rd : Nat) (cs : Nat) (ar : Nat → Nat → Nat) (x : Int32) (y : Int32) (z : Int32) (v : Int32) (g : Int32) (hcs : cs ≤ 10) (hnm : nm ≤ 6) : MetI l y_M_tally b_M_tally 6 (some .int) { frames := 2, cells := 0, slots := 0, locals := 47 } D cI [] sz [(h, .inr (10, oM ad nm mk rd cs)), (ad 10, .inl (cI, 10, .inl (nA (ar 10)))), (ad 11, .inl (cI, 10, .inl (nA (ar 11)))), (ad 12, .inl (cI, 10, .inl (nA (ar 12)))), (ad 13, .inl (cI, 60, .inl (nA (ar 13)))), (ad 14, .inl (cI, 10, .inl (nA (ar 14)))), (ad 15, .inl (cI, 10, .inl (nA (ar 15)))), (ad 16, .inl (cI, 10, .inl (nA (ar 16)))), (ad 17, .inl (cI, 10, .inl (nA (ar 17))))] [.ref h, .int x, .int y, .int z, .int v, .int g] (fun (r : Int32) (u : Nat × (Nat → Nat → Nat)) => (r, u) = adS ar cs (oTy nm x y z v g)) (fun u : Nat × (Nat → Nat → Nat) => [(h, .inr (10, oM ad nm mk rd u.1)), (ad 10, .inl (cI, 10, .inl (nA (u.2 10)))), (ad 11, .inl (cI, 10, .inl (nA (u.2 11)))), (ad 12, .inl (cI, 10, .inl (nA (u.2 12)))), (ad 13, .inl (cI, 60, .inl (nA (u.2 13)))), (ad 14, .inl (cI, 10, .inl (nA (u.2 14)))), (ad 15, .inl (cI, 10, .inl (nA (u.2 15)))), (ad 16, .inl (cI, 10, .inl (nA (u.2 16)))), (ad 17, .inl (cI, 10, .inl (nA (u.2 17))))]) := by
  refine enter (by decide) (Nat.le_of_ble_eq_true rfl) ?_
  intro p e s m below meth c A ls C0 hr hlk hnm hK hsz hA hAe hP hD hS hl
  have hx := C0.1
  have hb := C0.2.1
  have hl : lv_has ls 6 [(0, .ref h), (1, .int x), (2, .int y), (3, .int z), (4, .int v), (5, .int g)] := hl
  refine lv_aload_n hx hb d_M_tally_0 rfl (lv_at hl 0 rfl) ?_
  refine lv_iload_n hx hb d_M_tally_1 rfl (lv_at hl 1 rfl) ?_
  refine lv_iload_n hx hb d_M_tally_2 rfl (lv_at hl 2 rfl) ?_
  refine call_i (rm := { frames := 1, cells := 0, slots := 0, locals := 22 }) hS hP hD hA (spl_mk (wc := [(h, .inr (10, oM ad nm mk rd cs))]) (wr := [(ad 10, .inl (cI, 10, .inl (nA (ar 10)))), (ad 11, .inl (cI, 10, .inl (nA (ar 11)))), (ad 12, .inl (cI, 10, .inl (nA (ar 12)))), (ad 13, .inl (cI, 60, .inl (nA (ar 13)))), (ad 14, .inl (cI, 10, .inl (nA (ar 14)))), (ad 15, .inl (cI, 10, .inl (nA (ar 15)))), (ad 16, .inl (cI, 10, .inl (nA (ar 16)))), (ad 17, .inl (cI, 10, .inl (nA (ar 17))))]) [0] [1, 2, 3, 4, 5, 6, 7, 8] rfl rfl (by decide)) (run_v (n := 2) (As := [.int x, .int y]) (rest := []) (q0 := 0) (ci := 10) C0 (hK.sub [] rfl) (c_M_isRow l D cI s.heap.size h ad nm mk rd cs x y (by omega)) rfl rfl wt_766 wt_4 wt_763 wt_765 wp_18 (by decide +kernel) ⟨Nat.le_of_ble_eq_true rfl, Nat.le_of_ble_eq_true rfl⟩ rfl hl.1 rfl (Nat.le_of_ble_eq_true rfl) d_M_tally_3 ⟨Nat.le_of_ble_eq_true rfl, Nat.le_of_ble_eq_true rfl⟩) (fun r_3 _u3 H locs hw_3 hP hD hS => ?_)
  have hP : va_P D cls [(ad 10, .inl (cI, 10, .inl (nA (ar 10)))), (ad 11, .inl (cI, 10, .inl (nA (ar 11)))), (ad 12, .inl (cI, 10, .inl (nA (ar 12)))), (ad 13, .inl (cI, 60, .inl (nA (ar 13)))), (ad 14, .inl (cI, 10, .inl (nA (ar 14)))), (ad 15, .inl (cI, 10, .inl (nA (ar 15)))), (ad 16, .inl (cI, 10, .inl (nA (ar 16)))), (ad 17, .inl (cI, 10, .inl (nA (ar 17)))), (h, .inr (10, oM ad nm mk rd cs))] H := hP
  have hD : va_D A [(ad 10, .inl (cI, 10, .inl (nA (ar 10)))), (ad 11, .inl (cI, 10, .inl (nA (ar 11)))), (ad 12, .inl (cI, 10, .inl (nA (ar 12)))), (ad 13, .inl (cI, 60, .inl (nA (ar 13)))), (ad 14, .inl (cI, 10, .inl (nA (ar 14)))), (ad 15, .inl (cI, 10, .inl (nA (ar 15)))), (ad 16, .inl (cI, 10, .inl (nA (ar 16)))), (ad 17, .inl (cI, 10, .inl (nA (ar 17)))), (h, .inr (10, oM ad nm mk rd cs))] := hD
  subst hw_3
  refine y_eq (tgt := 56) hx hb d_M_tally_6 (by decide) (fun c_6 => ?_) (fun c_6 => ?_)
  · have hro := rowO_n c_6
    refine lv_bipush (v := (-2)) hx hb d_M_tally_56 (by decide) ?_
    exact ret_i C0 hr hlk hAe hS (cs, ar) (adS_n (by first | (unfold oTy; rw [hro]; rfl) | exact oTy_le (b := 0) hiaa hibb | (unfold oTy; rw [hro]; show (ixN z 6).bind _ = _; rw [hizz]; show (ixN v 7).bind _ = _; rw [hiaa]; rfl) | (unfold oTy; rw [hro]; show (ixN z 6).bind _ = _; rw [hizz]; rfl))) (hP.sub [8, 0, 1, 2, 3, 4, 5, 6, 7] rfl) (hD.sub [8, 0, 1, 2, 3, 4, 5, 6, 7] (by decide) rfl) rfl (Nat.le_of_ble_eq_true rfl) (Nat.le_of_ble_eq_true rfl) d_M_tally_58
  · obtain ⟨q, w, hq, hxq, hyw, hwq, hw18, hrw, hro⟩ := rowO_s c_6
    have hl : lv_has ls 6 [(0, .ref h), (1, .int (nI q)), (2, .int y), (3, .int z), (4, .int v), (5, .int g)] := by rw [← hxq]; exact hl
    have hl : lv_has ls 6 [(0, .ref h), (1, .int (nI q)), (2, .int (nI w)), (3, .int z), (4, .int v), (5, .int g)] := by rw [← hyw]; exact hl
    refine lv_iload_n hx hb d_M_tally_9 rfl (lv_at hl 3 rfl) ?_
    refine lv_iconst (v := (nI 0)) hx hb d_M_tally_10 (by decide) ?_
    refine lv_iconst (v := (nI 5)) hx hb d_M_tally_11 (by decide) ?_
    refine call_i (rm := { frames := 0, cells := 0, slots := 0, locals := 0 }) hS hP hD hA (spl_mk (wc := []) (wr := [(ad 10, .inl (cI, 10, .inl (nA (ar 10)))), (ad 11, .inl (cI, 10, .inl (nA (ar 11)))), (ad 12, .inl (cI, 10, .inl (nA (ar 12)))), (ad 13, .inl (cI, 60, .inl (nA (ar 13)))), (ad 14, .inl (cI, 10, .inl (nA (ar 14)))), (ad 15, .inl (cI, 10, .inl (nA (ar 15)))), (ad 16, .inl (cI, 10, .inl (nA (ar 16)))), (ad 17, .inl (cI, 10, .inl (nA (ar 17)))), (h, .inr (10, oM ad nm mk rd cs))]) [] [0, 1, 2, 3, 4, 5, 6, 7, 8] rfl rfl (by decide)) (run_s (n := 3) (As := [.int z, .int (nI 0), .int (nI 5)]) (rest := []) C0 (hK.sub [] rfl) (c_M_isIn l D cI H.size z (nI 0) (nI 5)) wt_758 wt_4 wt_756 wt_757 (by decide +kernel) ⟨Nat.le_of_ble_eq_true rfl, Nat.le_of_ble_eq_true rfl⟩ rfl hl.1 rfl (Nat.le_of_ble_eq_true rfl) d_M_tally_12 ⟨Nat.le_of_ble_eq_true rfl, Nat.le_of_ble_eq_true rfl⟩) (fun r_12 _u12 H locs hw_12 hP hD hS => ?_)
    have hP : va_P D cls [(ad 10, .inl (cI, 10, .inl (nA (ar 10)))), (ad 11, .inl (cI, 10, .inl (nA (ar 11)))), (ad 12, .inl (cI, 10, .inl (nA (ar 12)))), (ad 13, .inl (cI, 60, .inl (nA (ar 13)))), (ad 14, .inl (cI, 10, .inl (nA (ar 14)))), (ad 15, .inl (cI, 10, .inl (nA (ar 15)))), (ad 16, .inl (cI, 10, .inl (nA (ar 16)))), (ad 17, .inl (cI, 10, .inl (nA (ar 17)))), (h, .inr (10, oM ad nm mk rd cs))] H := hP
    have hD : va_D A [(ad 10, .inl (cI, 10, .inl (nA (ar 10)))), (ad 11, .inl (cI, 10, .inl (nA (ar 11)))), (ad 12, .inl (cI, 10, .inl (nA (ar 12)))), (ad 13, .inl (cI, 60, .inl (nA (ar 13)))), (ad 14, .inl (cI, 10, .inl (nA (ar 14)))), (ad 15, .inl (cI, 10, .inl (nA (ar 15)))), (ad 16, .inl (cI, 10, .inl (nA (ar 16)))), (ad 17, .inl (cI, 10, .inl (nA (ar 17)))), (h, .inr (10, oM ad nm mk rd cs))] := hD
    subst hw_12
    refine y_eq (tgt := 56) hx hb d_M_tally_15 (by decide) (fun c_15 => ?_) (fun c_15 => ?_)
    · have hizz := ik_f (by decide) c_15
      refine lv_bipush (v := (-2)) hx hb d_M_tally_56 (by decide) ?_
      exact ret_i C0 hr hlk hAe hS (cs, ar) (adS_n (by first | (unfold oTy; rw [hro]; rfl) | exact oTy_le (b := 0) hiaa hibb | (unfold oTy; rw [hro]; show (ixN z 6).bind _ = _; rw [hizz]; show (ixN v 7).bind _ = _; rw [hiaa]; rfl) | (unfold oTy; rw [hro]; show (ixN z 6).bind _ = _; rw [hizz]; rfl))) (hP.sub [8, 0, 1, 2, 3, 4, 5, 6, 7] rfl) (hD.sub [8, 0, 1, 2, 3, 4, 5, 6, 7] (by decide) rfl) rfl (Nat.le_of_ble_eq_true rfl) (Nat.le_of_ble_eq_true rfl) d_M_tally_58
    · obtain ⟨zz, hjzz, hxzz, hizz⟩ := ik_t (by decide) c_15
      have hl : lv_has ls 6 [(0, .ref h), (1, .int (nI q)), (2, .int (nI w)), (3, .int (nI zz)), (4, .int v), (5, .int g)] := by rw [← hxzz]; exact hl
      refine lv_iload hx hb d_M_tally_18 (lv_at hl 4 rfl) ?_
      refine lv_iconst (v := (nI 0)) hx hb d_M_tally_20 (by decide) ?_
      refine lv_bipush (v := (nI 6)) hx hb d_M_tally_21 (by decide) ?_
      refine call_i (rm := { frames := 0, cells := 0, slots := 0, locals := 0 }) hS hP hD hA (spl_mk (wc := []) (wr := [(ad 10, .inl (cI, 10, .inl (nA (ar 10)))), (ad 11, .inl (cI, 10, .inl (nA (ar 11)))), (ad 12, .inl (cI, 10, .inl (nA (ar 12)))), (ad 13, .inl (cI, 60, .inl (nA (ar 13)))), (ad 14, .inl (cI, 10, .inl (nA (ar 14)))), (ad 15, .inl (cI, 10, .inl (nA (ar 15)))), (ad 16, .inl (cI, 10, .inl (nA (ar 16)))), (ad 17, .inl (cI, 10, .inl (nA (ar 17)))), (h, .inr (10, oM ad nm mk rd cs))]) [] [0, 1, 2, 3, 4, 5, 6, 7, 8] rfl rfl (by decide)) (run_s (n := 3) (As := [.int v, .int (nI 0), .int (nI 6)]) (rest := []) C0 (hK.sub [] rfl) (c_M_isIn l D cI H.size v (nI 0) (nI 6)) wt_758 wt_4 wt_756 wt_757 (by decide +kernel) ⟨Nat.le_of_ble_eq_true rfl, Nat.le_of_ble_eq_true rfl⟩ rfl hl.1 rfl (Nat.le_of_ble_eq_true rfl) d_M_tally_23 ⟨Nat.le_of_ble_eq_true rfl, Nat.le_of_ble_eq_true rfl⟩) (fun r_23 _u23 H locs hw_23 hP hD hS => ?_)
      have hP : va_P D cls [(ad 10, .inl (cI, 10, .inl (nA (ar 10)))), (ad 11, .inl (cI, 10, .inl (nA (ar 11)))), (ad 12, .inl (cI, 10, .inl (nA (ar 12)))), (ad 13, .inl (cI, 60, .inl (nA (ar 13)))), (ad 14, .inl (cI, 10, .inl (nA (ar 14)))), (ad 15, .inl (cI, 10, .inl (nA (ar 15)))), (ad 16, .inl (cI, 10, .inl (nA (ar 16)))), (ad 17, .inl (cI, 10, .inl (nA (ar 17)))), (h, .inr (10, oM ad nm mk rd cs))] H := hP
      have hD : va_D A [(ad 10, .inl (cI, 10, .inl (nA (ar 10)))), (ad 11, .inl (cI, 10, .inl (nA (ar 11)))), (ad 12, .inl (cI, 10, .inl (nA (ar 12)))), (ad 13, .inl (cI, 60, .inl (nA (ar 13)))), (ad 14, .inl (cI, 10, .inl (nA (ar 14)))), (ad 15, .inl (cI, 10, .inl (nA (ar 15)))), (ad 16, .inl (cI, 10, .inl (nA (ar 16)))), (ad 17, .inl (cI, 10, .inl (nA (ar 17)))), (h, .inr (10, oM ad nm mk rd cs))] := hD
      subst hw_23
      refine y_eq (tgt := 56) hx hb d_M_tally_26 (by decide) (fun c_26 => ?_) (fun c_26 => ?_)
      · have hiaa := ik_f (by decide) c_26
        refine lv_bipush (v := (-2)) hx hb d_M_tally_56 (by decide) ?_
        exact ret_i C0 hr hlk hAe hS (cs, ar) (adS_n (by first | (unfold oTy; rw [hro]; rfl) | exact oTy_le (b := 0) hiaa hibb | (unfold oTy; rw [hro]; show (ixN z 6).bind _ = _; rw [hizz]; show (ixN v 7).bind _ = _; rw [hiaa]; rfl) | (unfold oTy; rw [hro]; show (ixN z 6).bind _ = _; rw [hizz]; rfl))) (hP.sub [8, 0, 1, 2, 3, 4, 5, 6, 7] rfl) (hD.sub [8, 0, 1, 2, 3, 4, 5, 6, 7] (by decide) rfl) rfl (Nat.le_of_ble_eq_true rfl) (Nat.le_of_ble_eq_true rfl) d_M_tally_58
      · obtain ⟨aa, hjaa, hxaa, hiaa⟩ := ik_t (by decide) c_26
        have hl : lv_has ls 6 [(0, .ref h), (1, .int (nI q)), (2, .int (nI w)), (3, .int (nI zz)), (4, .int (nI aa)), (5, .int g)] := by rw [← hxaa]; exact hl
        refine lv_iload hx hb d_M_tally_29 (lv_at hl 5 rfl) ?_
        refine lv_iload hx hb d_M_tally_31 (lv_at hl 4 rfl) ?_
        refine lv_bipush (v := (nI 6)) hx hb d_M_tally_33 (by decide) ?_
        refine call_i (rm := { frames := 0, cells := 0, slots := 0, locals := 0 }) hS hP hD hA (spl_mk (wc := []) (wr := [(ad 10, .inl (cI, 10, .inl (nA (ar 10)))), (ad 11, .inl (cI, 10, .inl (nA (ar 11)))), (ad 12, .inl (cI, 10, .inl (nA (ar 12)))), (ad 13, .inl (cI, 60, .inl (nA (ar 13)))), (ad 14, .inl (cI, 10, .inl (nA (ar 14)))), (ad 15, .inl (cI, 10, .inl (nA (ar 15)))), (ad 16, .inl (cI, 10, .inl (nA (ar 16)))), (ad 17, .inl (cI, 10, .inl (nA (ar 17)))), (h, .inr (10, oM ad nm mk rd cs))]) [] [0, 1, 2, 3, 4, 5, 6, 7, 8] rfl rfl (by decide)) (run_s (n := 3) (As := [.int g, .int (nI aa), .int (nI 6)]) (rest := []) C0 (hK.sub [] rfl) (c_M_isIn l D cI H.size g (nI aa) (nI 6)) wt_758 wt_4 wt_756 wt_757 (by decide +kernel) ⟨Nat.le_of_ble_eq_true rfl, Nat.le_of_ble_eq_true rfl⟩ rfl hl.1 rfl (Nat.le_of_ble_eq_true rfl) d_M_tally_35 ⟨Nat.le_of_ble_eq_true rfl, Nat.le_of_ble_eq_true rfl⟩) (fun r_35 _u35 H locs hw_35 hP hD hS => ?_)
        have hP : va_P D cls [(ad 10, .inl (cI, 10, .inl (nA (ar 10)))), (ad 11, .inl (cI, 10, .inl (nA (ar 11)))), (ad 12, .inl (cI, 10, .inl (nA (ar 12)))), (ad 13, .inl (cI, 60, .inl (nA (ar 13)))), (ad 14, .inl (cI, 10, .inl (nA (ar 14)))), (ad 15, .inl (cI, 10, .inl (nA (ar 15)))), (ad 16, .inl (cI, 10, .inl (nA (ar 16)))), (ad 17, .inl (cI, 10, .inl (nA (ar 17)))), (h, .inr (10, oM ad nm mk rd cs))] H := hP
        have hD : va_D A [(ad 10, .inl (cI, 10, .inl (nA (ar 10)))), (ad 11, .inl (cI, 10, .inl (nA (ar 11)))), (ad 12, .inl (cI, 10, .inl (nA (ar 12)))), (ad 13, .inl (cI, 60, .inl (nA (ar 13)))), (ad 14, .inl (cI, 10, .inl (nA (ar 14)))), (ad 15, .inl (cI, 10, .inl (nA (ar 15)))), (ad 16, .inl (cI, 10, .inl (nA (ar 16)))), (ad 17, .inl (cI, 10, .inl (nA (ar 17)))), (h, .inr (10, oM ad nm mk rd cs))] := hD
        subst hw_35
        refine y_eq (tgt := 56) hx hb d_M_tally_38 (by decide) (fun c_38 => ?_) (fun c_38 => ?_)
        · have hibb := il_f (a := aa) (b := 6) rfl (by decide) (by omega) c_38
          refine lv_bipush (v := (-2)) hx hb d_M_tally_56 (by decide) ?_
          exact ret_i C0 hr hlk hAe hS (cs, ar) (adS_n (by first | (unfold oTy; rw [hro]; rfl) | exact oTy_le (b := 0) hiaa hibb | (unfold oTy; rw [hro]; show (ixN z 6).bind _ = _; rw [hizz]; show (ixN v 7).bind _ = _; rw [hiaa]; rfl) | (unfold oTy; rw [hro]; show (ixN z 6).bind _ = _; rw [hizz]; rfl))) (hP.sub [8, 0, 1, 2, 3, 4, 5, 6, 7] rfl) (hD.sub [8, 0, 1, 2, 3, 4, 5, 6, 7] (by decide) rfl) rfl (Nat.le_of_ble_eq_true rfl) (Nat.le_of_ble_eq_true rfl) d_M_tally_58
        · obtain ⟨bb, hjbb, hxbb, hibb⟩ := il_t (a := aa) (b := 6) rfl (by decide) (by omega) c_38
          have hl : lv_has ls 6 [(0, .ref h), (1, .int (nI q)), (2, .int (nI w)), (3, .int (nI zz)), (4, .int (nI aa)), (5, .int (nI bb))] := by rw [← hxbb]; exact hl
          refine lv_aload_n hx hb d_M_tally_41 rfl (lv_at hl 0 rfl) ?_
          refine lv_iconst (v := (nI 5)) hx hb d_M_tally_42 (by decide) ?_
          refine lv_iload_n hx hb d_M_tally_43 rfl (lv_at hl 1 rfl) ?_
          refine lv_iload_n hx hb d_M_tally_44 rfl (lv_at hl 2 rfl) ?_
          refine lv_iload hx hb d_M_tally_45 (lv_at hl 4 rfl) ?_
          refine lv_iload hx hb d_M_tally_47 (lv_at hl 5 rfl) ?_
          refine lv_iload_n hx hb d_M_tally_49 rfl (lv_at hl 3 rfl) ?_
          refine call_i (rm := { frames := 0, cells := 0, slots := 0, locals := 0 }) hS hP hD hA (spl_mk (wc := [(h, .inr (10, oM ad nm mk rd cs)), (ad 10, .inl (cI, 10, .inl (nA (ar 10)))), (ad 11, .inl (cI, 10, .inl (nA (ar 11)))), (ad 12, .inl (cI, 10, .inl (nA (ar 12)))), (ad 13, .inl (cI, 60, .inl (nA (ar 13)))), (ad 14, .inl (cI, 10, .inl (nA (ar 14)))), (ad 15, .inl (cI, 10, .inl (nA (ar 15)))), (ad 16, .inl (cI, 10, .inl (nA (ar 16)))), (ad 17, .inl (cI, 10, .inl (nA (ar 17))))]) (wr := []) [8, 0, 1, 2, 3, 4, 5, 6, 7] [] rfl rfl (by decide)) (run_v (n := 6) (As := [.int (nI 5), .int (nI q), .int (nI w), .int (nI aa), .int (nI bb), .int (nI zz)]) (rest := []) (q0 := 0) (ci := 10) C0 (hK.sub [] rfl) (c_M_add l D cI H.size h ad nm mk rd cs ar 5 q w aa bb zz (by omega) (by omega) (by omega)) rfl rfl wt_770 wt_4 wt_767 wt_769 wp_19 (by decide +kernel) ⟨Nat.le_of_ble_eq_true rfl, Nat.le_of_ble_eq_true rfl⟩ rfl hl.1 rfl (Nat.le_of_ble_eq_true rfl) d_M_tally_50 ⟨Nat.le_of_ble_eq_true rfl, Nat.le_of_ble_eq_true rfl⟩) (fun r_50 u_50 H locs hw_50 hP hD hS => ?_)
          have hP : va_P D cls [(h, .inr (10, oM ad nm mk rd u_50.1)), (ad 10, .inl (cI, 10, .inl (nA (u_50.2 10)))), (ad 11, .inl (cI, 10, .inl (nA (u_50.2 11)))), (ad 12, .inl (cI, 10, .inl (nA (u_50.2 12)))), (ad 13, .inl (cI, 60, .inl (nA (u_50.2 13)))), (ad 14, .inl (cI, 10, .inl (nA (u_50.2 14)))), (ad 15, .inl (cI, 10, .inl (nA (u_50.2 15)))), (ad 16, .inl (cI, 10, .inl (nA (u_50.2 16)))), (ad 17, .inl (cI, 10, .inl (nA (u_50.2 17))))] H := hP
          have hD : va_D A [(h, .inr (10, oM ad nm mk rd u_50.1)), (ad 10, .inl (cI, 10, .inl (nA (u_50.2 10)))), (ad 11, .inl (cI, 10, .inl (nA (u_50.2 11)))), (ad 12, .inl (cI, 10, .inl (nA (u_50.2 12)))), (ad 13, .inl (cI, 60, .inl (nA (u_50.2 13)))), (ad 14, .inl (cI, 10, .inl (nA (u_50.2 14)))), (ad 15, .inl (cI, 10, .inl (nA (u_50.2 15)))), (ad 16, .inl (cI, 10, .inl (nA (u_50.2 16)))), (ad 17, .inl (cI, 10, .inl (nA (u_50.2 17))))] := hD
          refine lv_goto (tgt := 58) hx hb d_M_tally_53 (by decide) ?_
          exact ret_i C0 hr hlk hAe hS u_50 (adS_s (by unfold oTy; rw [hro]; show (ixN z 6).bind _ = _; rw [hizz]; show (ixN v 7).bind _ = _; rw [hiaa]; show (ixN g 7).bind _ = _; rw [hibb]; show (if _ then _ else _) = _; rw [if_pos hjbb.1]) hw_50) hP hD rfl (Nat.le_of_ble_eq_true rfl) (Nat.le_of_ble_eq_true rfl) d_M_tally_58
set_option maxHeartbeats 4000000 in
set_option maxRecDepth 100000 in
theorem c_M_first (l : Launch) (D : va_G) (cI : ClassId) (sz : Nat) (h : Nat) (ad : Nat → Nat) (nm : Nat) (mk : Nat) (rd : Nat) (cs : Nat) (ar : Nat → Nat → Nat) (x : Int32) (y : Int32) (z : Int32) (v : Int32) (hcs : cs ≤ 10) (hnm : nm ≤ 6) : MetI l y_M_first b_M_first 5 (some .int) { frames := 2, cells := 0, slots := 0, locals := 47 } D cI [] sz [(h, .inr (10, oM ad nm mk rd cs)), (ad 10, .inl (cI, 10, .inl (nA (ar 10)))), (ad 11, .inl (cI, 10, .inl (nA (ar 11)))), (ad 12, .inl (cI, 10, .inl (nA (ar 12)))), (ad 13, .inl (cI, 60, .inl (nA (ar 13)))), (ad 14, .inl (cI, 10, .inl (nA (ar 14)))), (ad 15, .inl (cI, 10, .inl (nA (ar 15)))), (ad 16, .inl (cI, 10, .inl (nA (ar 16)))), (ad 17, .inl (cI, 10, .inl (nA (ar 17))))] [.ref h, .int x, .int y, .int z, .int v] (fun (r : Int32) (u : Nat × (Nat → Nat → Nat)) => (r, u) = adS ar cs (oFi nm x y z v)) (fun u : Nat × (Nat → Nat → Nat) => [(h, .inr (10, oM ad nm mk rd u.1)), (ad 10, .inl (cI, 10, .inl (nA (u.2 10)))), (ad 11, .inl (cI, 10, .inl (nA (u.2 11)))), (ad 12, .inl (cI, 10, .inl (nA (u.2 12)))), (ad 13, .inl (cI, 60, .inl (nA (u.2 13)))), (ad 14, .inl (cI, 10, .inl (nA (u.2 14)))), (ad 15, .inl (cI, 10, .inl (nA (u.2 15)))), (ad 16, .inl (cI, 10, .inl (nA (u.2 16)))), (ad 17, .inl (cI, 10, .inl (nA (u.2 17))))]) := by
  refine enter (by decide) (Nat.le_of_ble_eq_true rfl) ?_
  intro p e s m below meth c A ls C0 hr hlk hnm hK hsz hA hAe hP hD hS hl
  have hx := C0.1
  have hb := C0.2.1
  have hl : lv_has ls 5 [(0, .ref h), (1, .int x), (2, .int y), (3, .int z), (4, .int v)] := hl
  refine lv_aload_n hx hb d_M_first_0 rfl (lv_at hl 0 rfl) ?_
  refine lv_iload_n hx hb d_M_first_1 rfl (lv_at hl 1 rfl) ?_
  refine lv_iload_n hx hb d_M_first_2 rfl (lv_at hl 2 rfl) ?_
  refine call_i (rm := { frames := 1, cells := 0, slots := 0, locals := 22 }) hS hP hD hA (spl_mk (wc := [(h, .inr (10, oM ad nm mk rd cs))]) (wr := [(ad 10, .inl (cI, 10, .inl (nA (ar 10)))), (ad 11, .inl (cI, 10, .inl (nA (ar 11)))), (ad 12, .inl (cI, 10, .inl (nA (ar 12)))), (ad 13, .inl (cI, 60, .inl (nA (ar 13)))), (ad 14, .inl (cI, 10, .inl (nA (ar 14)))), (ad 15, .inl (cI, 10, .inl (nA (ar 15)))), (ad 16, .inl (cI, 10, .inl (nA (ar 16)))), (ad 17, .inl (cI, 10, .inl (nA (ar 17))))]) [0] [1, 2, 3, 4, 5, 6, 7, 8] rfl rfl (by decide)) (run_v (n := 2) (As := [.int x, .int y]) (rest := []) (q0 := 0) (ci := 10) C0 (hK.sub [] rfl) (c_M_isRow l D cI s.heap.size h ad nm mk rd cs x y (by omega)) rfl rfl wt_766 wt_4 wt_763 wt_765 wp_18 (by decide +kernel) ⟨Nat.le_of_ble_eq_true rfl, Nat.le_of_ble_eq_true rfl⟩ rfl hl.1 rfl (Nat.le_of_ble_eq_true rfl) d_M_first_3 ⟨Nat.le_of_ble_eq_true rfl, Nat.le_of_ble_eq_true rfl⟩) (fun r_3 _u3 H locs hw_3 hP hD hS => ?_)
  have hP : va_P D cls [(ad 10, .inl (cI, 10, .inl (nA (ar 10)))), (ad 11, .inl (cI, 10, .inl (nA (ar 11)))), (ad 12, .inl (cI, 10, .inl (nA (ar 12)))), (ad 13, .inl (cI, 60, .inl (nA (ar 13)))), (ad 14, .inl (cI, 10, .inl (nA (ar 14)))), (ad 15, .inl (cI, 10, .inl (nA (ar 15)))), (ad 16, .inl (cI, 10, .inl (nA (ar 16)))), (ad 17, .inl (cI, 10, .inl (nA (ar 17)))), (h, .inr (10, oM ad nm mk rd cs))] H := hP
  have hD : va_D A [(ad 10, .inl (cI, 10, .inl (nA (ar 10)))), (ad 11, .inl (cI, 10, .inl (nA (ar 11)))), (ad 12, .inl (cI, 10, .inl (nA (ar 12)))), (ad 13, .inl (cI, 60, .inl (nA (ar 13)))), (ad 14, .inl (cI, 10, .inl (nA (ar 14)))), (ad 15, .inl (cI, 10, .inl (nA (ar 15)))), (ad 16, .inl (cI, 10, .inl (nA (ar 16)))), (ad 17, .inl (cI, 10, .inl (nA (ar 17)))), (h, .inr (10, oM ad nm mk rd cs))] := hD
  subst hw_3
  refine y_eq (tgt := 49) hx hb d_M_first_6 (by decide) (fun c_6 => ?_) (fun c_6 => ?_)
  · have hro := rowO_n c_6
    refine lv_bipush (v := (-2)) hx hb d_M_first_49 (by decide) ?_
    exact ret_i C0 hr hlk hAe hS (cs, ar) (adS_n (by first | (unfold oFi; rw [hro]; rfl) | (unfold oFi; rw [hro]; show (ixN z 6).bind _ = _; rw [hiaa]; show (ixN v 6).bind _ = _; rw [hibb]; show (if _ then _ else _) = _; rw [if_pos c_31]; done) | (unfold oFi; rw [hro]; show (ixN z 6).bind _ = _; rw [hiaa]; show (ixN v 6).bind _ = _; rw [hibb]; rfl) | (unfold oFi; rw [hro]; show (ixN z 6).bind _ = _; rw [hiaa]; rfl))) (hP.sub [8, 0, 1, 2, 3, 4, 5, 6, 7] rfl) (hD.sub [8, 0, 1, 2, 3, 4, 5, 6, 7] (by decide) rfl) rfl (Nat.le_of_ble_eq_true rfl) (Nat.le_of_ble_eq_true rfl) d_M_first_51
  · obtain ⟨q, w, hq, hxq, hyw, hwq, hw18, hrw, hro⟩ := rowO_s c_6
    have hl : lv_has ls 5 [(0, .ref h), (1, .int (nI q)), (2, .int y), (3, .int z), (4, .int v)] := by rw [← hxq]; exact hl
    have hl : lv_has ls 5 [(0, .ref h), (1, .int (nI q)), (2, .int (nI w)), (3, .int z), (4, .int v)] := by rw [← hyw]; exact hl
    refine lv_iload_n hx hb d_M_first_9 rfl (lv_at hl 3 rfl) ?_
    refine lv_iconst (v := (nI 0)) hx hb d_M_first_10 (by decide) ?_
    refine lv_iconst (v := (nI 5)) hx hb d_M_first_11 (by decide) ?_
    refine call_i (rm := { frames := 0, cells := 0, slots := 0, locals := 0 }) hS hP hD hA (spl_mk (wc := []) (wr := [(ad 10, .inl (cI, 10, .inl (nA (ar 10)))), (ad 11, .inl (cI, 10, .inl (nA (ar 11)))), (ad 12, .inl (cI, 10, .inl (nA (ar 12)))), (ad 13, .inl (cI, 60, .inl (nA (ar 13)))), (ad 14, .inl (cI, 10, .inl (nA (ar 14)))), (ad 15, .inl (cI, 10, .inl (nA (ar 15)))), (ad 16, .inl (cI, 10, .inl (nA (ar 16)))), (ad 17, .inl (cI, 10, .inl (nA (ar 17)))), (h, .inr (10, oM ad nm mk rd cs))]) [] [0, 1, 2, 3, 4, 5, 6, 7, 8] rfl rfl (by decide)) (run_s (n := 3) (As := [.int z, .int (nI 0), .int (nI 5)]) (rest := []) C0 (hK.sub [] rfl) (c_M_isIn l D cI H.size z (nI 0) (nI 5)) wt_758 wt_4 wt_756 wt_757 (by decide +kernel) ⟨Nat.le_of_ble_eq_true rfl, Nat.le_of_ble_eq_true rfl⟩ rfl hl.1 rfl (Nat.le_of_ble_eq_true rfl) d_M_first_12 ⟨Nat.le_of_ble_eq_true rfl, Nat.le_of_ble_eq_true rfl⟩) (fun r_12 _u12 H locs hw_12 hP hD hS => ?_)
    have hP : va_P D cls [(ad 10, .inl (cI, 10, .inl (nA (ar 10)))), (ad 11, .inl (cI, 10, .inl (nA (ar 11)))), (ad 12, .inl (cI, 10, .inl (nA (ar 12)))), (ad 13, .inl (cI, 60, .inl (nA (ar 13)))), (ad 14, .inl (cI, 10, .inl (nA (ar 14)))), (ad 15, .inl (cI, 10, .inl (nA (ar 15)))), (ad 16, .inl (cI, 10, .inl (nA (ar 16)))), (ad 17, .inl (cI, 10, .inl (nA (ar 17)))), (h, .inr (10, oM ad nm mk rd cs))] H := hP
    have hD : va_D A [(ad 10, .inl (cI, 10, .inl (nA (ar 10)))), (ad 11, .inl (cI, 10, .inl (nA (ar 11)))), (ad 12, .inl (cI, 10, .inl (nA (ar 12)))), (ad 13, .inl (cI, 60, .inl (nA (ar 13)))), (ad 14, .inl (cI, 10, .inl (nA (ar 14)))), (ad 15, .inl (cI, 10, .inl (nA (ar 15)))), (ad 16, .inl (cI, 10, .inl (nA (ar 16)))), (ad 17, .inl (cI, 10, .inl (nA (ar 17)))), (h, .inr (10, oM ad nm mk rd cs))] := hD
    subst hw_12
    refine y_eq (tgt := 49) hx hb d_M_first_15 (by decide) (fun c_15 => ?_) (fun c_15 => ?_)
    · have hiaa := ik_f (by decide) c_15
      refine lv_bipush (v := (-2)) hx hb d_M_first_49 (by decide) ?_
      exact ret_i C0 hr hlk hAe hS (cs, ar) (adS_n (by first | (unfold oFi; rw [hro]; rfl) | (unfold oFi; rw [hro]; show (ixN z 6).bind _ = _; rw [hiaa]; show (ixN v 6).bind _ = _; rw [hibb]; show (if _ then _ else _) = _; rw [if_pos c_31]; done) | (unfold oFi; rw [hro]; show (ixN z 6).bind _ = _; rw [hiaa]; show (ixN v 6).bind _ = _; rw [hibb]; rfl) | (unfold oFi; rw [hro]; show (ixN z 6).bind _ = _; rw [hiaa]; rfl))) (hP.sub [8, 0, 1, 2, 3, 4, 5, 6, 7] rfl) (hD.sub [8, 0, 1, 2, 3, 4, 5, 6, 7] (by decide) rfl) rfl (Nat.le_of_ble_eq_true rfl) (Nat.le_of_ble_eq_true rfl) d_M_first_51
    · obtain ⟨aa, hjaa, hxaa, hiaa⟩ := ik_t (by decide) c_15
      have hl : lv_has ls 5 [(0, .ref h), (1, .int (nI q)), (2, .int (nI w)), (3, .int (nI aa)), (4, .int v)] := by rw [← hxaa]; exact hl
      refine lv_iload hx hb d_M_first_18 (lv_at hl 4 rfl) ?_
      refine lv_iconst (v := (nI 0)) hx hb d_M_first_20 (by decide) ?_
      refine lv_iconst (v := (nI 5)) hx hb d_M_first_21 (by decide) ?_
      refine call_i (rm := { frames := 0, cells := 0, slots := 0, locals := 0 }) hS hP hD hA (spl_mk (wc := []) (wr := [(ad 10, .inl (cI, 10, .inl (nA (ar 10)))), (ad 11, .inl (cI, 10, .inl (nA (ar 11)))), (ad 12, .inl (cI, 10, .inl (nA (ar 12)))), (ad 13, .inl (cI, 60, .inl (nA (ar 13)))), (ad 14, .inl (cI, 10, .inl (nA (ar 14)))), (ad 15, .inl (cI, 10, .inl (nA (ar 15)))), (ad 16, .inl (cI, 10, .inl (nA (ar 16)))), (ad 17, .inl (cI, 10, .inl (nA (ar 17)))), (h, .inr (10, oM ad nm mk rd cs))]) [] [0, 1, 2, 3, 4, 5, 6, 7, 8] rfl rfl (by decide)) (run_s (n := 3) (As := [.int v, .int (nI 0), .int (nI 5)]) (rest := []) C0 (hK.sub [] rfl) (c_M_isIn l D cI H.size v (nI 0) (nI 5)) wt_758 wt_4 wt_756 wt_757 (by decide +kernel) ⟨Nat.le_of_ble_eq_true rfl, Nat.le_of_ble_eq_true rfl⟩ rfl hl.1 rfl (Nat.le_of_ble_eq_true rfl) d_M_first_22 ⟨Nat.le_of_ble_eq_true rfl, Nat.le_of_ble_eq_true rfl⟩) (fun r_22 _u22 H locs hw_22 hP hD hS => ?_)
      have hP : va_P D cls [(ad 10, .inl (cI, 10, .inl (nA (ar 10)))), (ad 11, .inl (cI, 10, .inl (nA (ar 11)))), (ad 12, .inl (cI, 10, .inl (nA (ar 12)))), (ad 13, .inl (cI, 60, .inl (nA (ar 13)))), (ad 14, .inl (cI, 10, .inl (nA (ar 14)))), (ad 15, .inl (cI, 10, .inl (nA (ar 15)))), (ad 16, .inl (cI, 10, .inl (nA (ar 16)))), (ad 17, .inl (cI, 10, .inl (nA (ar 17)))), (h, .inr (10, oM ad nm mk rd cs))] H := hP
      have hD : va_D A [(ad 10, .inl (cI, 10, .inl (nA (ar 10)))), (ad 11, .inl (cI, 10, .inl (nA (ar 11)))), (ad 12, .inl (cI, 10, .inl (nA (ar 12)))), (ad 13, .inl (cI, 60, .inl (nA (ar 13)))), (ad 14, .inl (cI, 10, .inl (nA (ar 14)))), (ad 15, .inl (cI, 10, .inl (nA (ar 15)))), (ad 16, .inl (cI, 10, .inl (nA (ar 16)))), (ad 17, .inl (cI, 10, .inl (nA (ar 17)))), (h, .inr (10, oM ad nm mk rd cs))] := hD
      subst hw_22
      refine y_eq (tgt := 49) hx hb d_M_first_25 (by decide) (fun c_25 => ?_) (fun c_25 => ?_)
      · have hibb := ik_f (by decide) c_25
        refine lv_bipush (v := (-2)) hx hb d_M_first_49 (by decide) ?_
        exact ret_i C0 hr hlk hAe hS (cs, ar) (adS_n (by first | (unfold oFi; rw [hro]; rfl) | (unfold oFi; rw [hro]; show (ixN z 6).bind _ = _; rw [hiaa]; show (ixN v 6).bind _ = _; rw [hibb]; show (if _ then _ else _) = _; rw [if_pos c_31]; done) | (unfold oFi; rw [hro]; show (ixN z 6).bind _ = _; rw [hiaa]; show (ixN v 6).bind _ = _; rw [hibb]; rfl) | (unfold oFi; rw [hro]; show (ixN z 6).bind _ = _; rw [hiaa]; rfl))) (hP.sub [8, 0, 1, 2, 3, 4, 5, 6, 7] rfl) (hD.sub [8, 0, 1, 2, 3, 4, 5, 6, 7] (by decide) rfl) rfl (Nat.le_of_ble_eq_true rfl) (Nat.le_of_ble_eq_true rfl) d_M_first_51
      · obtain ⟨bb, hjbb, hxbb, hibb⟩ := ik_t (by decide) c_25
        have hl : lv_has ls 5 [(0, .ref h), (1, .int (nI q)), (2, .int (nI w)), (3, .int (nI aa)), (4, .int (nI bb))] := by rw [← hxbb]; exact hl
        refine lv_iload_n hx hb d_M_first_28 rfl (lv_at hl 3 rfl) ?_
        refine lv_iload hx hb d_M_first_29 (lv_at hl 4 rfl) ?_
        refine b_eq (tgt := 49) hx hb (by omega) (by omega) d_M_first_31 (by decide) (fun c_31 => ?_) (fun c_31 => ?_)
        · refine lv_bipush (v := (-2)) hx hb d_M_first_49 (by decide) ?_
          exact ret_i C0 hr hlk hAe hS (cs, ar) (adS_n (by first | (unfold oFi; rw [hro]; rfl) | (unfold oFi; rw [hro]; show (ixN z 6).bind _ = _; rw [hiaa]; show (ixN v 6).bind _ = _; rw [hibb]; show (if _ then _ else _) = _; rw [if_pos c_31]; done) | (unfold oFi; rw [hro]; show (ixN z 6).bind _ = _; rw [hiaa]; show (ixN v 6).bind _ = _; rw [hibb]; rfl) | (unfold oFi; rw [hro]; show (ixN z 6).bind _ = _; rw [hiaa]; rfl))) (hP.sub [8, 0, 1, 2, 3, 4, 5, 6, 7] rfl) (hD.sub [8, 0, 1, 2, 3, 4, 5, 6, 7] (by decide) rfl) rfl (Nat.le_of_ble_eq_true rfl) (Nat.le_of_ble_eq_true rfl) d_M_first_51
        · refine lv_aload_n hx hb d_M_first_34 rfl (lv_at hl 0 rfl) ?_
          refine lv_bipush (v := (nI 6)) hx hb d_M_first_35 (by decide) ?_
          refine lv_iload_n hx hb d_M_first_37 rfl (lv_at hl 1 rfl) ?_
          refine lv_iload_n hx hb d_M_first_38 rfl (lv_at hl 2 rfl) ?_
          refine lv_iload_n hx hb d_M_first_39 rfl (lv_at hl 3 rfl) ?_
          refine lv_iload hx hb d_M_first_40 (lv_at hl 4 rfl) ?_
          refine lv_iconst (v := (nI 0)) hx hb d_M_first_42 (by decide) ?_
          refine call_i (rm := { frames := 0, cells := 0, slots := 0, locals := 0 }) hS hP hD hA (spl_mk (wc := [(h, .inr (10, oM ad nm mk rd cs)), (ad 10, .inl (cI, 10, .inl (nA (ar 10)))), (ad 11, .inl (cI, 10, .inl (nA (ar 11)))), (ad 12, .inl (cI, 10, .inl (nA (ar 12)))), (ad 13, .inl (cI, 60, .inl (nA (ar 13)))), (ad 14, .inl (cI, 10, .inl (nA (ar 14)))), (ad 15, .inl (cI, 10, .inl (nA (ar 15)))), (ad 16, .inl (cI, 10, .inl (nA (ar 16)))), (ad 17, .inl (cI, 10, .inl (nA (ar 17))))]) (wr := []) [8, 0, 1, 2, 3, 4, 5, 6, 7] [] rfl rfl (by decide)) (run_v (n := 6) (As := [.int (nI 6), .int (nI q), .int (nI w), .int (nI aa), .int (nI bb), .int (nI 0)]) (rest := []) (q0 := 0) (ci := 10) C0 (hK.sub [] rfl) (c_M_add l D cI H.size h ad nm mk rd cs ar 6 q w aa bb 0 (by omega) (by omega) (by omega)) rfl rfl wt_770 wt_4 wt_767 wt_769 wp_19 (by decide +kernel) ⟨Nat.le_of_ble_eq_true rfl, Nat.le_of_ble_eq_true rfl⟩ rfl hl.1 rfl (Nat.le_of_ble_eq_true rfl) d_M_first_43 ⟨Nat.le_of_ble_eq_true rfl, Nat.le_of_ble_eq_true rfl⟩) (fun r_43 u_43 H locs hw_43 hP hD hS => ?_)
          have hP : va_P D cls [(h, .inr (10, oM ad nm mk rd u_43.1)), (ad 10, .inl (cI, 10, .inl (nA (u_43.2 10)))), (ad 11, .inl (cI, 10, .inl (nA (u_43.2 11)))), (ad 12, .inl (cI, 10, .inl (nA (u_43.2 12)))), (ad 13, .inl (cI, 60, .inl (nA (u_43.2 13)))), (ad 14, .inl (cI, 10, .inl (nA (u_43.2 14)))), (ad 15, .inl (cI, 10, .inl (nA (u_43.2 15)))), (ad 16, .inl (cI, 10, .inl (nA (u_43.2 16)))), (ad 17, .inl (cI, 10, .inl (nA (u_43.2 17))))] H := hP
          have hD : va_D A [(h, .inr (10, oM ad nm mk rd u_43.1)), (ad 10, .inl (cI, 10, .inl (nA (u_43.2 10)))), (ad 11, .inl (cI, 10, .inl (nA (u_43.2 11)))), (ad 12, .inl (cI, 10, .inl (nA (u_43.2 12)))), (ad 13, .inl (cI, 60, .inl (nA (u_43.2 13)))), (ad 14, .inl (cI, 10, .inl (nA (u_43.2 14)))), (ad 15, .inl (cI, 10, .inl (nA (u_43.2 15)))), (ad 16, .inl (cI, 10, .inl (nA (u_43.2 16)))), (ad 17, .inl (cI, 10, .inl (nA (u_43.2 17))))] := hD
          refine lv_goto (tgt := 51) hx hb d_M_first_46 (by decide) ?_
          exact ret_i C0 hr hlk hAe hS u_43 (adS_s (by unfold oFi; rw [hro]; show (ixN z 6).bind _ = _; rw [hiaa]; show (ixN v 6).bind _ = _; rw [hibb]; show (if _ then _ else _) = _; rw [if_neg c_31]) hw_43) hP hD rfl (Nat.le_of_ble_eq_true rfl) (Nat.le_of_ble_eq_true rfl) d_M_first_51
