def oM (ad : Nat → Nat) (nm mk rd cs : Nat) : List Value := [.int (nI nm), .ref (ad 1), .ref (ad 2), .ref (ad 3), .int (nI mk), .ref (ad 5), .ref (ad 6), .ref (ad 7), .int (nI rd), .int (nI cs), .ref (ad 10), .ref (ad 11), .ref (ad 12), .ref (ad 13), .ref (ad 14), .ref (ad 15), .ref (ad 16), .ref (ad 17), .ref (ad 18), .ref (ad 19), .ref (ad 20), .ref (ad 21), .ref (ad 22), .ref (ad 23), .ref (ad 24), .ref (ad 25), .ref (ad 26), .ref (ad 27)]
def allB (f : Nat → Bool) : Nat → Bool
  | 0 => true
  | i + 1 => allB f i && f i
def anyB (f : Nat → Bool) : Nat → Bool
  | 0 => false
  | i + 1 => anyB f i || f i
theorem bI_1 : nI 1 = bI true := rfl
theorem bI_0 : nI 0 = bI false := rfl
/-- the lowest bit of a set that isn't empty -/
def low6 (w : Nat) : Nat := if w % 2 = 1 then 0 else if w / 2 % 2 = 1 then 1 else if w / 4 % 2 = 1 then 2 else if w / 8 % 2 = 1 then 3 else if w / 16 % 2 = 1 then 4 else 5
theorem low6_is : ∀ w, w < 64 → ¬ w = 0 → (w / 2 ^ low6 w % 2 = 1 ∧ low6 w < 6) := by decide +kernel
theorem low6_lt : ∀ w, w < 64 → ∀ i, i < 6 → i < low6 w → w / 2 ^ i % 2 = 0 := by decide +kernel
theorem low6_le {w i : Nat} (hw : w < 64) (h0 : ¬ w = 0) (hi : i ≤ low6 w) (h : ¬ w / 2 ^ i % 2 = 0) : i = low6 w := by
  have h1 := (low6_is w hw h0).2
  rcases Nat.lt_or_ge i (low6 w) with g | g
  · exact absurd (low6_lt w hw i (by omega) g) h
  · omega
theorem low6_gt {w i : Nat} (hw : w < 64) (h0 : ¬ w = 0) (hi : i ≤ low6 w) (h : w / 2 ^ i % 2 = 0) : i + 1 ≤ low6 w := by
  have h1 := (low6_is w hw h0).1
  rcases Nat.lt_or_ge i (low6 w) with g | g
  · exact g
  · rw [show i = low6 w by omega] at h; omega
set_option maxHeartbeats 4000000 in
set_option maxRecDepth 100000 in
theorem c_M_isIn (l : Launch) (D : va_G) (cI : ClassId) (sz : Nat) (x : Int32) (y : Int32) (z : Int32)  : MetI l y_M_isIn b_M_isIn 3 (some .boolean) { frames := 0, cells := 0, slots := 0, locals := 0 } D cI [] sz [] [.int x, .int y, .int z] (fun (r : Int32) (u : Unit) => r = (bI (decide (y ≤ x) && decide (x ≤ z)))) (fun u : Unit => []) := by
  refine enter (by decide) (Nat.le_of_ble_eq_true rfl) ?_
  intro p e s m below meth c A ls C0 hr hlk hnm hK hsz hA hAe hP hD hS hl
  have hx := C0.1
  have hb := C0.2.1
  have hl : lv_has ls 3 [(0, .int x), (1, .int y), (2, .int z)] := hl
  refine lv_iload_n hx hb d_M_isIn_0 rfl (lv_at hl 0 rfl) ?_
  refine lv_iload_n hx hb d_M_isIn_1 rfl (lv_at hl 1 rfl) ?_
  refine lv_icmp_lt (tgt := 14) hx hb d_M_isIn_2 (by decide) (fun c_2 => ?_) (fun c_2 => ?_)
  · refine lv_iconst (v := (nI 0)) hx hb d_M_isIn_14 (by decide) ?_
    exact ret_i C0 hr hlk hAe hS () (by first | exact isIn_2 c_7 | exact isIn_3 c_2 c_7 | exact isIn_1 c_2) hP hD rfl (Nat.le_of_ble_eq_true rfl) (Nat.le_of_ble_eq_true rfl) d_M_isIn_15
  · refine lv_iload_n hx hb d_M_isIn_5 rfl (lv_at hl 0 rfl) ?_
    refine lv_iload_n hx hb d_M_isIn_6 rfl (lv_at hl 2 rfl) ?_
    refine lv_icmp_gt (tgt := 14) hx hb d_M_isIn_7 (by decide) (fun c_7 => ?_) (fun c_7 => ?_)
    · refine lv_iconst (v := (nI 0)) hx hb d_M_isIn_14 (by decide) ?_
      exact ret_i C0 hr hlk hAe hS () (by first | exact isIn_2 c_7 | exact isIn_3 c_2 c_7 | exact isIn_1 c_2) hP hD rfl (Nat.le_of_ble_eq_true rfl) (Nat.le_of_ble_eq_true rfl) d_M_isIn_15
    · refine lv_iconst (v := (nI 1)) hx hb d_M_isIn_10 (by decide) ?_
      refine lv_goto (tgt := 15) hx hb d_M_isIn_11 (by decide) ?_
      exact ret_i C0 hr hlk hAe hS () (by first | exact isIn_2 c_7 | exact isIn_3 c_2 c_7 | exact isIn_1 c_2) hP hD rfl (Nat.le_of_ble_eq_true rfl) (Nat.le_of_ble_eq_true rfl) d_M_isIn_15
set_option maxHeartbeats 4000000 in
set_option maxRecDepth 100000 in
theorem c_M_clear (l : Launch) (D : va_G) (cI : ClassId) (sz : Nat) (h : Nat) (ad : Nat → Nat) (nm : Nat) (mk : Nat) (rd : Nat) (cs : Nat)  : MetI l y_M_clear b_M_clear 2 (some .int) { frames := 0, cells := 0, slots := 0, locals := 0 } D cI [] sz [(h, .inr (10, oM ad nm mk rd cs))] [.ref h] (fun (r : Int32) (u : Unit) => r = (nI cs)) (fun u : Unit => [(h, .inr (10, oM ad 0 0 0 0))]) := by
  refine enter (by decide) (Nat.le_of_ble_eq_true rfl) ?_
  intro p e s m below meth c A ls C0 hr hlk hnm hK hsz hA hAe hP hD hS hl
  have hx := C0.1
  have hb := C0.2.1
  have hl : lv_has ls 2 [(0, .ref h)] := hl
  refine lv_aload_n hx hb d_M_clear_0 rfl (lv_at hl 0 rfl) ?_
  refine r_get C0 hK hP 0 rfl rfl i_M 9 (by decide) wt_672 (fun _ h => h) rfl d_M_clear_1 ?_
  refine lv_istore_n (lv' := [(1, .int (nI cs)), (0, .ref h)]) hx hb d_M_clear_4 rfl hl (by decide) rfl (fun ls hl => ?_)
  refine lv_aload_n hx hb d_M_clear_5 rfl (lv_at hl 1 rfl) ?_
  refine lv_iconst (v := (nI 0)) hx hb d_M_clear_6 (by decide) ?_
  refine r_put C0 hK hP hD hS 0 rfl rfl i_M t_M k_M n_M 0 (by decide) wt_663 (fun _ h => h) rfl rfl rfl (Nat.le_of_ble_eq_true rfl) d_M_clear_7 (fun H locs hP hD hS => ?_)
  have hP : va_P D cls [(h, .inr (10, oM ad 0 mk rd cs))] H := hP
  have hD : va_D A [(h, .inr (10, oM ad 0 mk rd cs))] := hD
  refine lv_aload_n hx hb d_M_clear_10 rfl (lv_at hl 1 rfl) ?_
  refine lv_iconst (v := (nI 0)) hx hb d_M_clear_11 (by decide) ?_
  refine r_put C0 hK hP hD hS 0 rfl rfl i_M t_M k_M n_M 9 (by decide) wt_672 (fun _ h => h) rfl rfl rfl (Nat.le_of_ble_eq_true rfl) d_M_clear_12 (fun H locs hP hD hS => ?_)
  have hP : va_P D cls [(h, .inr (10, oM ad 0 mk rd 0))] H := hP
  have hD : va_D A [(h, .inr (10, oM ad 0 mk rd 0))] := hD
  refine lv_aload_n hx hb d_M_clear_15 rfl (lv_at hl 1 rfl) ?_
  refine lv_iconst (v := (nI 0)) hx hb d_M_clear_16 (by decide) ?_
  refine r_put C0 hK hP hD hS 0 rfl rfl i_M t_M k_M n_M 4 (by decide) wt_667 (fun _ h => h) rfl rfl rfl (Nat.le_of_ble_eq_true rfl) d_M_clear_17 (fun H locs hP hD hS => ?_)
  have hP : va_P D cls [(h, .inr (10, oM ad 0 0 rd 0))] H := hP
  have hD : va_D A [(h, .inr (10, oM ad 0 0 rd 0))] := hD
  refine lv_aload_n hx hb d_M_clear_20 rfl (lv_at hl 1 rfl) ?_
  refine lv_iconst (v := (nI 0)) hx hb d_M_clear_21 (by decide) ?_
  refine r_put C0 hK hP hD hS 0 rfl rfl i_M t_M k_M n_M 8 (by decide) wt_671 (fun _ h => h) rfl rfl rfl (Nat.le_of_ble_eq_true rfl) d_M_clear_22 (fun H locs hP hD hS => ?_)
  have hP : va_P D cls [(h, .inr (10, oM ad 0 0 0 0))] H := hP
  have hD : va_D A [(h, .inr (10, oM ad 0 0 0 0))] := hD
  refine lv_iload_n hx hb d_M_clear_25 rfl (lv_at hl 0 rfl) ?_
  exact ret_i C0 hr hlk hAe hS () rfl hP hD rfl (Nat.le_of_ble_eq_true rfl) (Nat.le_of_ble_eq_true rfl) d_M_clear_26
set_option maxHeartbeats 4000000 in
set_option maxRecDepth 100000 in
theorem c_M_undo (l : Launch) (D : va_G) (cI : ClassId) (sz : Nat) (h : Nat) (ad : Nat → Nat) (nm : Nat) (mk : Nat) (rd : Nat) (cs : Nat) (hcs : cs ≤ 10) : MetI l y_M_undo b_M_undo 1 (some .int) { frames := 0, cells := 0, slots := 0, locals := 0 } D cI [] sz [(h, .inr (10, oM ad nm mk rd cs))] [.ref h] (fun (r : Int32) (u : Nat) => (cs = 0 ∧ r = -1 ∧ u = cs) ∨ (¬ cs = 0 ∧ r = nI (cs - 1) ∧ u = cs - 1)) (fun u : Nat => [(h, .inr (10, oM ad nm mk rd u))]) := by
  refine enter (by decide) (Nat.le_of_ble_eq_true rfl) ?_
  intro p e s m below meth c A ls C0 hr hlk hnm hK hsz hA hAe hP hD hS hl
  have hx := C0.1
  have hb := C0.2.1
  have hl : lv_has ls 1 [(0, .ref h)] := hl
  refine lv_aload_n hx hb d_M_undo_0 rfl (lv_at hl 0 rfl) ?_
  refine r_get C0 hK hP 0 rfl rfl i_M 9 (by decide) wt_672 (fun _ h => h) rfl d_M_undo_1 ?_
  refine z_ne (tgt := 9) hx hb (by omega) d_M_undo_4 (by decide) (fun c_4 => ?_) (fun c_4 => ?_)
  · refine lv_aload_n hx hb d_M_undo_9 rfl (lv_at hl 0 rfl) ?_
    refine lv_dup hx hb d_M_undo_10 rfl ?_
    refine r_get C0 hK hP 0 rfl rfl i_M 9 (by decide) wt_672 (fun _ h => h) rfl d_M_undo_11 ?_
    refine lv_iconst (v := (nI 1)) hx hb d_M_undo_14 (by decide) ?_
    refine lv_isub hx hb d_M_undo_15 ?_
    refine t_eq (y := (nI (cs - 1))) (pk_sub (by omega)) ?_
    refine r_put C0 hK hP hD hS 0 rfl rfl i_M t_M k_M n_M 9 (by decide) wt_672 (fun _ h => h) rfl rfl rfl (Nat.le_of_ble_eq_true rfl) d_M_undo_16 (fun H locs hP hD hS => ?_)
    have hP : va_P D cls [(h, .inr (10, oM ad nm mk rd (cs - 1)))] H := hP
    have hD : va_D A [(h, .inr (10, oM ad nm mk rd (cs - 1)))] := hD
    refine lv_aload_n hx hb d_M_undo_19 rfl (lv_at hl 0 rfl) ?_
    refine r_get C0 hK hP 0 rfl rfl i_M 9 (by decide) wt_672 (fun _ h => h) rfl d_M_undo_20 ?_
    exact ret_i C0 hr hlk hAe hS (cs - 1) (Or.inr ⟨c_4, rfl, rfl⟩) hP hD rfl (Nat.le_of_ble_eq_true rfl) (Nat.le_of_ble_eq_true rfl) d_M_undo_23
  · refine lv_iconst (v := (-1)) hx hb d_M_undo_7 (by decide) ?_
    exact ret_i C0 hr hlk hAe hS cs (Or.inl ⟨c_4, rfl, rfl⟩) hP hD rfl (Nat.le_of_ble_eq_true rfl) (Nat.le_of_ble_eq_true rfl) d_M_undo_8
set_option maxHeartbeats 4000000 in
set_option maxRecDepth 100000 in
theorem c_M_lowest (l : Launch) (D : va_G) (cI : ClassId) (sz : Nat) (w : Nat) (hw : w < 64) (h0 : ¬ w = 0) : MetI l y_M_lowest b_M_lowest 2 (some .int) { frames := 0, cells := 0, slots := 0, locals := 0 } D cI [] sz [] [.int (nI w)] (fun (r : Int32) (u : Unit) => r = (nI (low6 w))) (fun u : Unit => []) := by
  refine enter (by decide) (Nat.le_of_ble_eq_true rfl) ?_
  intro p e s m below meth c A ls C0 hr hlk hnm hK hsz hA hAe hP hD hS hl
  have hx := C0.1
  have hb := C0.2.1
  have hl : lv_has ls 2 [(0, .int (nI w))] := hl
  have hl6 := (low6_is w hw h0).2
  refine lv_iconst (v := (nI 0)) hx hb d_M_lowest_0 (by decide) ?_
  refine lv_istore_n (lv' := [(1, .int (nI 0)), (0, .int (nI w))]) hx hb d_M_lowest_1 rfl hl (by decide) rfl (fun ls hl => ?_)
  have L2 : ∀ (fuel2 : Nat) (i : Nat), (i ≤ low6 w) → (6 < i + fuel2) → ∀ (H : Heap) (locs : List Loc) (ls : Array Slot), va_P D cls [] H → va_D A [] → va_S A s.heap H locs → lv_has ls 2 [(1, .int (nI i)), (0, .int (nI w))] → W p l e { frames := 0, cells := 0, slots := 0, locals := 0 } s m ([.int (nI w)] : List Value).toArray below meth c H locs 0 0 (MQ below (pstI D [] sz (fun (r : Int32) (u : Unit) => r = (nI (low6 w))) (fun u : Unit => [])) ([.int (nI w)] : List Value).toArray s 0 0 A) (F0 m 2 ls []) := by
    intro fuel2
    induction fuel2 with
    | zero => intros; omega
    | succ fuel2 ih2 =>
      intro i hi hfu H locs ls hP hD hS hl
      refine lv_iload_n hx hb d_M_lowest_2 rfl (lv_at hl 1 rfl) ?_
      refine lv_iload_n hx hb d_M_lowest_3 rfl (lv_at hl 0 rfl) ?_
      refine lv_ishr hx hb d_M_lowest_4 ?_
      refine t_eq (y := (nI (w / 2 ^ i))) (m_shr (by omega) (by omega)) ?_
      refine lv_iconst (v := (nI 1)) hx hb d_M_lowest_5 (by decide) ?_
      refine lv_iand hx hb d_M_lowest_6 ?_
      refine t_eq (y := (nI ((w / 2 ^ i) % 2))) (m_and1 _) ?_
      refine z_ne (tgt := 16) hx hb (by omega) d_M_lowest_7 (by decide) (fun c_7 => ?_) (fun c_7 => ?_)
      · refine lv_iload_n hx hb d_M_lowest_16 rfl (lv_at hl 0 rfl) ?_
        exact ret_i C0 hr hlk hAe hS () (by rw [low6_le hw h0 hi c_7]) hP hD rfl (Nat.le_of_ble_eq_true rfl) (Nat.le_of_ble_eq_true rfl) d_M_lowest_17
      · refine lv_iinc (v := (nI (i + 1))) (lv' := [(1, .int (nI (i + 1))), (0, .int (nI w))]) hx hb d_M_lowest_10 hl (k := 0) rfl (by exact nI_1 _) (by decide) rfl (fun ls hl => ?_)
        refine lv_goto (tgt := 2) hx hb d_M_lowest_13 (by decide) ?_
        exact ih2 (i + 1) (by first | exact Nat.zero_le _ | exact low6_gt hw h0 hi c_7) (by omega) _ _ _ hP hD hS (lv_sub hl [0, 1] rfl)
  exact L2 (7) 0 (by first | exact Nat.zero_le _ | exact low6_gt hw h0 hi c_7) (by omega) _ _ _ hP hD hS (lv_sub hl [0, 1] rfl)
def beF (dm ro wo : Nat → Nat) (k i : Nat) : Nat → Nat := fun j => if j < i then low6 (dm (ro (6 * k + j))) else wo j
theorem beF_0 {dm ro wo : Nat → Nat} {k : Nat} : beF dm ro wo k 0 = wo := by
  funext j
  unfold beF
  rw [if_neg (by omega)]
theorem beF_s {dm ro wo : Nat → Nat} {k i : Nat} : va_up (beF dm ro wo k i) i (low6 (dm (ro (6 * k + i)))) = beF dm ro wo k (i + 1) := by
  funext j
  unfold va_up beF
  by_cases h : j = i
  · subst h
    rw [if_pos rfl, if_pos (by omega)]
  · rw [if_neg h]
    by_cases g : j < i
    · rw [if_pos g, if_pos (by omega)]
    · rw [if_neg g, if_neg (by omega)]
set_option maxHeartbeats 4000000 in
set_option maxRecDepth 100000 in
theorem c_M_begin (l : Launch) (D : va_G) (cI : ClassId) (sz : Nat) (h : Nat) (ad : Nat → Nat) (nm : Nat) (mk : Nat) (rd : Nat) (cs : Nat) (dm : Nat → Nat) (wi : Nat → Nat) (ro : Nat → Nat) (wo : Nat → Nat) (k : Nat) (hk : k < 10) (hwi : wi k ≤ 6) (hro : ∀ j, ro j < 6) (hdm : ∀ j, j < wi k → dm (ro (6 * k + j)) < 64 ∧ ¬ dm (ro (6 * k + j)) = 0) : MetV l y_M_begin b_M_begin 3 { frames := 1, cells := 0, slots := 0, locals := 21 } D cI [] sz [(h, .inr (10, oM ad nm mk rd cs)), (ad 1, .inl (cI, 6, .inl (nA dm))), (ad 11, .inl (cI, 10, .inl (nA wi))), (ad 13, .inl (cI, 60, .inl (nA ro))), (ad 23, .inl (cI, 6, .inl (nA wo)))] [.ref h, .int (nI k)] (fun (u : Unit) => True) (fun u : Unit => [(h, .inr (10, oM ad nm mk rd cs)), (ad 1, .inl (cI, 6, .inl (nA dm))), (ad 11, .inl (cI, 10, .inl (nA wi))), (ad 13, .inl (cI, 60, .inl (nA ro))), (ad 23, .inl (cI, 6, .inl (nA (beF dm ro wo k (wi k)))))]) := by
  refine enter (by decide) (Nat.le_of_ble_eq_true rfl) ?_
  intro p e s m below meth c A ls C0 hr hlk hnm hK hsz hA hAe hP hD hS hl
  have hx := C0.1
  have hb := C0.2.1
  have hl : lv_has ls 3 [(0, .ref h), (1, .int (nI k))] := hl
  refine lv_iconst (v := (nI 0)) hx hb d_M_begin_0 (by decide) ?_
  refine lv_istore_n (lv' := [(2, .int (nI 0)), (0, .ref h), (1, .int (nI k))]) hx hb d_M_begin_1 rfl hl (by decide) rfl (fun ls hl => ?_)
  rw [show wo = beF dm ro wo k 0 from beF_0.symm] at hP hD
  have L2 : ∀ (fuel2 : Nat) (i : Nat), (i ≤ wi k) → (wi k < i + fuel2) → ∀ (H : Heap) (locs : List Loc) (ls : Array Slot), va_P D cls [(h, .inr (10, oM ad nm mk rd cs)), (ad 1, .inl (cI, 6, .inl (nA dm))), (ad 11, .inl (cI, 10, .inl (nA wi))), (ad 13, .inl (cI, 60, .inl (nA ro))), (ad 23, .inl (cI, 6, .inl (nA (beF dm ro wo k i))))] H → va_D A [(h, .inr (10, oM ad nm mk rd cs)), (ad 1, .inl (cI, 6, .inl (nA dm))), (ad 11, .inl (cI, 10, .inl (nA wi))), (ad 13, .inl (cI, 60, .inl (nA ro))), (ad 23, .inl (cI, 6, .inl (nA (beF dm ro wo k i))))] → va_S A s.heap H locs → lv_has ls 3 [(2, .int (nI i)), (0, .ref h), (1, .int (nI k))] → W p l e { frames := 1, cells := 0, slots := 0, locals := 21 } s m ([.ref h, .int (nI k)] : List Value).toArray below meth c H locs 0 0 (MQ below (pstV D [(h, .inr (10, oM ad nm mk rd cs)), (ad 1, .inl (cI, 6, .inl (nA dm))), (ad 11, .inl (cI, 10, .inl (nA wi))), (ad 13, .inl (cI, 60, .inl (nA ro))), (ad 23, .inl (cI, 6, .inl (nA wo)))] sz (fun (u : Unit) => True) (fun u : Unit => [(h, .inr (10, oM ad nm mk rd cs)), (ad 1, .inl (cI, 6, .inl (nA dm))), (ad 11, .inl (cI, 10, .inl (nA wi))), (ad 13, .inl (cI, 60, .inl (nA ro))), (ad 23, .inl (cI, 6, .inl (nA (beF dm ro wo k (wi k)))))])) ([.ref h, .int (nI k)] : List Value).toArray s 0 0 A) (F0 m 2 ls []) := by
    intro fuel2
    induction fuel2 with
    | zero => intros; omega
    | succ fuel2 ih2 =>
      intro i hi hfu H locs ls hP hD hS hl
      refine lv_iload_n hx hb d_M_begin_2 rfl (lv_at hl 0 rfl) ?_
      refine lv_aload_n hx hb d_M_begin_3 rfl (lv_at hl 1 rfl) ?_
      refine r_get C0 hK hP 0 rfl rfl i_M 11 (by decide) wt_674 (fun _ h => h) rfl d_M_begin_4 ?_
      refine lv_iload_n hx hb d_M_begin_7 rfl (lv_at hl 2 rfl) ?_
      refine r_ald C0 hK hP 2 rfl (by omega) (by decide) d_M_begin_8 ?_
      refine t_eq (y := (nI (wi k))) rfl ?_
      refine b_ge (tgt := 43) hx hb (by omega) (by omega) d_M_begin_9 (by decide) (fun c_9 => ?_) (fun c_9 => ?_)
      · have hie : i = wi k := by omega
        rw [hie] at hP hD
        exact ret_v C0 hr hlk hAe hS () trivial hP hD (Nat.le_of_ble_eq_true rfl) (Nat.le_of_ble_eq_true rfl) d_M_begin_43
      · refine lv_aload_n hx hb d_M_begin_12 rfl (lv_at hl 1 rfl) ?_
        refine r_get C0 hK hP 0 rfl rfl i_M 23 (by decide) wt_686 (fun _ h => h) rfl d_M_begin_13 ?_
        refine lv_iload_n hx hb d_M_begin_16 rfl (lv_at hl 0 rfl) ?_
        refine lv_aload_n hx hb d_M_begin_17 rfl (lv_at hl 1 rfl) ?_
        refine r_get C0 hK hP 0 rfl rfl i_M 1 (by decide) wt_664 (fun _ h => h) rfl d_M_begin_18 ?_
        refine lv_aload_n hx hb d_M_begin_21 rfl (lv_at hl 1 rfl) ?_
        refine r_get C0 hK hP 0 rfl rfl i_M 13 (by decide) wt_676 (fun _ h => h) rfl d_M_begin_22 ?_
        refine lv_bipush (v := (nI 6)) hx hb d_M_begin_25 (by decide) ?_
        refine lv_iload_n hx hb d_M_begin_27 rfl (lv_at hl 2 rfl) ?_
        refine lv_imul hx hb d_M_begin_28 ?_
        refine t_eq (y := (nI (6 * k))) (pk_mul _ _) ?_
        refine lv_iload_n hx hb d_M_begin_29 rfl (lv_at hl 0 rfl) ?_
        refine lv_iadd hx hb d_M_begin_30 ?_
        refine t_eq (y := (nI ((6 * k) + i))) (nI_add _ _) ?_
        refine r_ald C0 hK hP 3 rfl (by omega) (by decide) d_M_begin_31 ?_
        refine t_eq (y := (nI (ro ((6 * k) + i)))) rfl ?_
        refine r_ald C0 hK hP 1 rfl (hro _) (by decide) d_M_begin_32 ?_
        refine t_eq (y := (nI (dm (ro ((6 * k) + i))))) rfl ?_
        refine call_i (rm := { frames := 0, cells := 0, slots := 0, locals := 0 }) hS hP hD hA (spl_mk (wc := []) (wr := [(h, .inr (10, oM ad nm mk rd cs)), (ad 1, .inl (cI, 6, .inl (nA dm))), (ad 11, .inl (cI, 10, .inl (nA wi))), (ad 13, .inl (cI, 60, .inl (nA ro))), (ad 23, .inl (cI, 6, .inl (nA (beF dm ro wo k i))))]) [] [0, 1, 2, 3, 4] rfl rfl (by decide)) (run_s (n := 1) (As := [.int (nI (dm (ro ((6 * k) + i))))]) (rest := [.int (nI i), .ref (ad 23)]) C0 (hK.sub [] rfl) (c_M_lowest l D cI H.size (dm (ro ((6 * k) + i))) (hdm i (by omega)).1 (hdm i (by omega)).2) wt_836 wt_4 wt_834 wt_835 (by decide +kernel) ⟨Nat.le_of_ble_eq_true rfl, Nat.le_of_ble_eq_true rfl⟩ rfl hl.1 rfl (Nat.le_of_ble_eq_true rfl) d_M_begin_33 ⟨Nat.le_of_ble_eq_true rfl, Nat.le_of_ble_eq_true rfl⟩) (fun r_33 _u33 H locs hw_33 hP hD hS => ?_)
        have hP : va_P D cls [(h, .inr (10, oM ad nm mk rd cs)), (ad 1, .inl (cI, 6, .inl (nA dm))), (ad 11, .inl (cI, 10, .inl (nA wi))), (ad 13, .inl (cI, 60, .inl (nA ro))), (ad 23, .inl (cI, 6, .inl (nA (beF dm ro wo k i))))] H := hP
        have hD : va_D A [(h, .inr (10, oM ad nm mk rd cs)), (ad 1, .inl (cI, 6, .inl (nA dm))), (ad 11, .inl (cI, 10, .inl (nA wi))), (ad 13, .inl (cI, 60, .inl (nA ro))), (ad 23, .inl (cI, 6, .inl (nA (beF dm ro wo k i))))] := hD
        subst hw_33
        refine r_astN C0 hK hP hD hS 4 rfl (by omega) (by decide) d_M_begin_36 (fun H locs hP hD hS => ?_)
        have hP : va_P D cls [(h, .inr (10, oM ad nm mk rd cs)), (ad 1, .inl (cI, 6, .inl (nA dm))), (ad 11, .inl (cI, 10, .inl (nA wi))), (ad 13, .inl (cI, 60, .inl (nA ro))), (ad 23, .inl (cI, 6, .inl (nA (va_up (beF dm ro wo k i) i (low6 (dm (ro ((6 * k) + i))))))))] H := hP
        have hD : va_D A [(h, .inr (10, oM ad nm mk rd cs)), (ad 1, .inl (cI, 6, .inl (nA dm))), (ad 11, .inl (cI, 10, .inl (nA wi))), (ad 13, .inl (cI, 60, .inl (nA ro))), (ad 23, .inl (cI, 6, .inl (nA (va_up (beF dm ro wo k i) i (low6 (dm (ro ((6 * k) + i))))))))] := hD
        rw [show (va_up (beF dm ro wo k i) i (low6 (dm (ro ((6 * k) + i))))) = beF dm ro wo k (i + 1) from beF_s] at hP hD
        refine lv_iinc (v := (nI (i + 1))) (lv' := [(2, .int (nI (i + 1))), (0, .ref h), (1, .int (nI k))]) hx hb d_M_begin_37 hl (k := 0) rfl (by exact nI_1 _) (by decide) rfl (fun ls hl => ?_)
        refine lv_goto (tgt := 2) hx hb d_M_begin_40 (by decide) ?_
        exact ih2 (i + 1) (by omega) (by omega) _ _ _ hP hD hS (lv_sub hl [0, 1, 2] rfl)
  exact L2 (wi k + 1) 0 (by omega) (by omega) _ _ _ hP hD hS (lv_sub hl [0, 1, 2] rfl)
/-- the odometer goes on: places below i have been set back -/
def goF (dm ro wo : Nat → Nat) (k : Nat) : Nat → Nat → Bool × (Nat → Nat)
  | 0, i => (false, beF dm ro wo k i)
  | f + 1, i => if dm (ro (6 * k + i)) / 2 ^ (wo i + 1) = 0 then goF dm ro wo k f (i + 1) else (true, va_up (beF dm ro wo k i) i (wo i + 1 + low6 (dm (ro (6 * k + i)) / 2 ^ (wo i + 1))))
theorem beF_at {dm ro wo : Nat → Nat} {k i : Nat} : beF dm ro wo k i i = wo i := by
  unfold beF
  rw [if_neg (by omega)]
theorem goF_t {dm ro wo : Nat → Nat} {k f i : Nat} (h : ¬ dm (ro (6 * k + i)) / 2 ^ (wo i + 1) = 0) : goF dm ro wo k (f + 1) i = (true, va_up (beF dm ro wo k i) i (wo i + 1 + low6 (dm (ro (6 * k + i)) / 2 ^ (wo i + 1)))) := by
  show (if _ then _ else _) = _
  rw [if_neg h]
theorem goF_f {dm ro wo : Nat → Nat} {k f i : Nat} (h : dm (ro (6 * k + i)) / 2 ^ (wo i + 1) = 0) : goF dm ro wo k (f + 1) i = goF dm ro wo k f (i + 1) := by
  show (if _ then _ else _) = _
  rw [if_pos h]
set_option maxHeartbeats 4000000 in
set_option maxRecDepth 100000 in
theorem c_M_goOn (l : Launch) (D : va_G) (cI : ClassId) (sz : Nat) (h : Nat) (ad : Nat → Nat) (nm : Nat) (mk : Nat) (rd : Nat) (cs : Nat) (dm : Nat → Nat) (wi : Nat → Nat) (ro : Nat → Nat) (wo : Nat → Nat) (k : Nat) (hk : k < 10) (hwi : wi k ≤ 6) (hro : ∀ j, ro j < 6) (hdm : ∀ j, j < wi k → dm (ro (6 * k + j)) < 64 ∧ ¬ dm (ro (6 * k + j)) = 0) (hwo : ∀ j, wo j < 6) : MetI l y_M_goOn b_M_goOn 4 (some .boolean) { frames := 1, cells := 0, slots := 0, locals := 21 } D cI [] sz [(h, .inr (10, oM ad nm mk rd cs)), (ad 1, .inl (cI, 6, .inl (nA dm))), (ad 11, .inl (cI, 10, .inl (nA wi))), (ad 13, .inl (cI, 60, .inl (nA ro))), (ad 23, .inl (cI, 6, .inl (nA wo)))] [.ref h, .int (nI k)] (fun (r : Int32) (u : Nat → Nat) => r = bI (goF dm ro wo k (wi k) 0).1 ∧ u = (goF dm ro wo k (wi k) 0).2) (fun u : Nat → Nat => [(h, .inr (10, oM ad nm mk rd cs)), (ad 1, .inl (cI, 6, .inl (nA dm))), (ad 11, .inl (cI, 10, .inl (nA wi))), (ad 13, .inl (cI, 60, .inl (nA ro))), (ad 23, .inl (cI, 6, .inl (nA u)))]) := by
  refine enter (by decide) (Nat.le_of_ble_eq_true rfl) ?_
  intro p e s m below meth c A ls C0 hr hlk hnm hK hsz hA hAe hP hD hS hl
  have hx := C0.1
  have hb := C0.2.1
  have hl : lv_has ls 4 [(0, .ref h), (1, .int (nI k))] := hl
  refine lv_iconst (v := (nI 0)) hx hb d_M_goOn_0 (by decide) ?_
  refine lv_istore_n (lv' := [(2, .int (nI 0)), (0, .ref h), (1, .int (nI k))]) hx hb d_M_goOn_1 rfl hl (by decide) rfl (fun ls hl => ?_)
  rw [show wo = beF dm ro wo k 0 from beF_0.symm] at hP hD
  have L2 : ∀ (fuel2 : Nat) (i : Nat), (i ≤ wi k) → (wi k < i + fuel2) → (goF dm ro wo k (wi k) 0 = goF dm ro wo k (wi k - i) i) → ∀ (H : Heap) (locs : List Loc) (ls : Array Slot), va_P D cls [(h, .inr (10, oM ad nm mk rd cs)), (ad 1, .inl (cI, 6, .inl (nA dm))), (ad 11, .inl (cI, 10, .inl (nA wi))), (ad 13, .inl (cI, 60, .inl (nA ro))), (ad 23, .inl (cI, 6, .inl (nA (beF dm ro wo k i))))] H → va_D A [(h, .inr (10, oM ad nm mk rd cs)), (ad 1, .inl (cI, 6, .inl (nA dm))), (ad 11, .inl (cI, 10, .inl (nA wi))), (ad 13, .inl (cI, 60, .inl (nA ro))), (ad 23, .inl (cI, 6, .inl (nA (beF dm ro wo k i))))] → va_S A s.heap H locs → lv_has ls 4 [(2, .int (nI i)), (0, .ref h), (1, .int (nI k))] → W p l e { frames := 1, cells := 0, slots := 0, locals := 21 } s m ([.ref h, .int (nI k)] : List Value).toArray below meth c H locs 0 0 (MQ below (pstI D [(h, .inr (10, oM ad nm mk rd cs)), (ad 1, .inl (cI, 6, .inl (nA dm))), (ad 11, .inl (cI, 10, .inl (nA wi))), (ad 13, .inl (cI, 60, .inl (nA ro))), (ad 23, .inl (cI, 6, .inl (nA wo)))] sz (fun (r : Int32) (u : Nat → Nat) => r = bI (goF dm ro wo k (wi k) 0).1 ∧ u = (goF dm ro wo k (wi k) 0).2) (fun u : Nat → Nat => [(h, .inr (10, oM ad nm mk rd cs)), (ad 1, .inl (cI, 6, .inl (nA dm))), (ad 11, .inl (cI, 10, .inl (nA wi))), (ad 13, .inl (cI, 60, .inl (nA ro))), (ad 23, .inl (cI, 6, .inl (nA u)))])) ([.ref h, .int (nI k)] : List Value).toArray s 0 0 A) (F0 m 2 ls []) := by
    intro fuel2
    induction fuel2 with
    | zero => intros; omega
    | succ fuel2 ih2 =>
      intro i hi hfu hgo H locs ls hP hD hS hl
      refine lv_iload_n hx hb d_M_goOn_2 rfl (lv_at hl 0 rfl) ?_
      refine lv_aload_n hx hb d_M_goOn_3 rfl (lv_at hl 1 rfl) ?_
      refine r_get C0 hK hP 0 rfl rfl i_M 11 (by decide) wt_674 (fun _ h => h) rfl d_M_goOn_4 ?_
      refine lv_iload_n hx hb d_M_goOn_7 rfl (lv_at hl 2 rfl) ?_
      refine r_ald C0 hK hP 2 rfl (by omega) (by decide) d_M_goOn_8 ?_
      refine t_eq (y := (nI (wi k))) rfl ?_
      refine b_ge (tgt := 94) hx hb (by omega) (by omega) d_M_goOn_9 (by decide) (fun c_9 => ?_) (fun c_9 => ?_)
      · refine lv_iconst (v := (nI 0)) hx hb d_M_goOn_94 (by decide) ?_
        rw [show wi k - i = 0 by omega] at hgo
        exact ret_i C0 hr hlk hAe hS (beF dm ro wo k i) (⟨by rw [hgo]; rfl, by rw [hgo]; rfl⟩) hP hD rfl (Nat.le_of_ble_eq_true rfl) (Nat.le_of_ble_eq_true rfl) d_M_goOn_95
      · have hdi := hdm i (by omega)
        have hwi0 := hwo i
        have hsu : wi k - i = (wi k - (i + 1)) + 1 := by omega
        refine lv_aload_n hx hb d_M_goOn_12 rfl (lv_at hl 1 rfl) ?_
        refine r_get C0 hK hP 0 rfl rfl i_M 1 (by decide) wt_664 (fun _ h => h) rfl d_M_goOn_13 ?_
        refine lv_aload_n hx hb d_M_goOn_16 rfl (lv_at hl 1 rfl) ?_
        refine r_get C0 hK hP 0 rfl rfl i_M 13 (by decide) wt_676 (fun _ h => h) rfl d_M_goOn_17 ?_
        refine lv_bipush (v := (nI 6)) hx hb d_M_goOn_20 (by decide) ?_
        refine lv_iload_n hx hb d_M_goOn_22 rfl (lv_at hl 2 rfl) ?_
        refine lv_imul hx hb d_M_goOn_23 ?_
        refine t_eq (y := (nI (6 * k))) (pk_mul _ _) ?_
        refine lv_iload_n hx hb d_M_goOn_24 rfl (lv_at hl 0 rfl) ?_
        refine lv_iadd hx hb d_M_goOn_25 ?_
        refine t_eq (y := (nI ((6 * k) + i))) (nI_add _ _) ?_
        refine r_ald C0 hK hP 3 rfl (by omega) (by decide) d_M_goOn_26 ?_
        refine t_eq (y := (nI (ro ((6 * k) + i)))) rfl ?_
        refine r_ald C0 hK hP 1 rfl (hro _) (by decide) d_M_goOn_27 ?_
        refine t_eq (y := (nI (dm (ro ((6 * k) + i))))) rfl ?_
        refine lv_aload_n hx hb d_M_goOn_28 rfl (lv_at hl 1 rfl) ?_
        refine r_get C0 hK hP 0 rfl rfl i_M 23 (by decide) wt_686 (fun _ h => h) rfl d_M_goOn_29 ?_
        refine lv_iload_n hx hb d_M_goOn_32 rfl (lv_at hl 0 rfl) ?_
        refine r_ald C0 hK hP 4 rfl (by omega) (by decide) d_M_goOn_33 ?_
        refine t_eq (y := (nI ((beF dm ro wo k i) i))) rfl ?_
        refine t_eq (y := (nI (wo i))) (by rw [beF_at]) ?_
        refine lv_iconst (v := (nI 1)) hx hb d_M_goOn_34 (by decide) ?_
        refine lv_iadd hx hb d_M_goOn_35 ?_
        refine t_eq (y := (nI ((wo i) + 1))) (nI_add _ _) ?_
        refine lv_ishr hx hb d_M_goOn_36 ?_
        refine t_eq (y := (nI ((dm (ro ((6 * k) + i))) / 2 ^ ((wo i) + 1)))) (m_shr (by omega) (by omega)) ?_
        have hmo : dm (ro (6 * k + i)) / 2 ^ (wo i + 1) < 64 := Nat.lt_of_le_of_lt (Nat.div_le_self _ _) hdi.1
        refine lv_istore_n (lv' := [(3, .int (nI ((dm (ro ((6 * k) + i))) / 2 ^ ((wo i) + 1)))), (2, .int (nI i)), (0, .ref h), (1, .int (nI k))]) hx hb d_M_goOn_37 rfl hl (by decide) rfl (fun ls hl => ?_)
        refine lv_iload_n hx hb d_M_goOn_38 rfl (lv_at hl 0 rfl) ?_
        refine z_eq (tgt := 63) hx hb (by omega) d_M_goOn_39 (by decide) (fun c_39 => ?_) (fun c_39 => ?_)
        · refine lv_aload_n hx hb d_M_goOn_63 rfl (lv_at hl 2 rfl) ?_
          refine r_get C0 hK hP 0 rfl rfl i_M 23 (by decide) wt_686 (fun _ h => h) rfl d_M_goOn_64 ?_
          refine lv_iload_n hx hb d_M_goOn_67 rfl (lv_at hl 1 rfl) ?_
          refine lv_aload_n hx hb d_M_goOn_68 rfl (lv_at hl 2 rfl) ?_
          refine r_get C0 hK hP 0 rfl rfl i_M 1 (by decide) wt_664 (fun _ h => h) rfl d_M_goOn_69 ?_
          refine lv_aload_n hx hb d_M_goOn_72 rfl (lv_at hl 2 rfl) ?_
          refine r_get C0 hK hP 0 rfl rfl i_M 13 (by decide) wt_676 (fun _ h => h) rfl d_M_goOn_73 ?_
          refine lv_bipush (v := (nI 6)) hx hb d_M_goOn_76 (by decide) ?_
          refine lv_iload_n hx hb d_M_goOn_78 rfl (lv_at hl 3 rfl) ?_
          refine lv_imul hx hb d_M_goOn_79 ?_
          refine t_eq (y := (nI (6 * k))) (pk_mul _ _) ?_
          refine lv_iload_n hx hb d_M_goOn_80 rfl (lv_at hl 1 rfl) ?_
          refine lv_iadd hx hb d_M_goOn_81 ?_
          refine t_eq (y := (nI ((6 * k) + i))) (nI_add _ _) ?_
          refine r_ald C0 hK hP 3 rfl (by omega) (by decide) d_M_goOn_82 ?_
          refine t_eq (y := (nI (ro ((6 * k) + i)))) rfl ?_
          refine r_ald C0 hK hP 1 rfl (hro _) (by decide) d_M_goOn_83 ?_
          refine t_eq (y := (nI (dm (ro ((6 * k) + i))))) rfl ?_
          refine call_i (rm := { frames := 0, cells := 0, slots := 0, locals := 0 }) hS hP hD hA (spl_mk (wc := []) (wr := [(h, .inr (10, oM ad nm mk rd cs)), (ad 1, .inl (cI, 6, .inl (nA dm))), (ad 11, .inl (cI, 10, .inl (nA wi))), (ad 13, .inl (cI, 60, .inl (nA ro))), (ad 23, .inl (cI, 6, .inl (nA (beF dm ro wo k i))))]) [] [0, 1, 2, 3, 4] rfl rfl (by decide)) (run_s (n := 1) (As := [.int (nI (dm (ro ((6 * k) + i))))]) (rest := [.int (nI i), .ref (ad 23)]) C0 (hK.sub [] rfl) (c_M_lowest l D cI H.size (dm (ro ((6 * k) + i))) hdi.1 hdi.2) wt_836 wt_4 wt_834 wt_835 (by decide +kernel) ⟨Nat.le_of_ble_eq_true rfl, Nat.le_of_ble_eq_true rfl⟩ rfl hl.1 rfl (Nat.le_of_ble_eq_true rfl) d_M_goOn_84 ⟨Nat.le_of_ble_eq_true rfl, Nat.le_of_ble_eq_true rfl⟩) (fun r_84 _u84 H locs hw_84 hP hD hS => ?_)
          have hP : va_P D cls [(h, .inr (10, oM ad nm mk rd cs)), (ad 1, .inl (cI, 6, .inl (nA dm))), (ad 11, .inl (cI, 10, .inl (nA wi))), (ad 13, .inl (cI, 60, .inl (nA ro))), (ad 23, .inl (cI, 6, .inl (nA (beF dm ro wo k i))))] H := hP
          have hD : va_D A [(h, .inr (10, oM ad nm mk rd cs)), (ad 1, .inl (cI, 6, .inl (nA dm))), (ad 11, .inl (cI, 10, .inl (nA wi))), (ad 13, .inl (cI, 60, .inl (nA ro))), (ad 23, .inl (cI, 6, .inl (nA (beF dm ro wo k i))))] := hD
          subst hw_84
          refine r_astN C0 hK hP hD hS 4 rfl (by omega) (by decide) d_M_goOn_87 (fun H locs hP hD hS => ?_)
          have hP : va_P D cls [(h, .inr (10, oM ad nm mk rd cs)), (ad 1, .inl (cI, 6, .inl (nA dm))), (ad 11, .inl (cI, 10, .inl (nA wi))), (ad 13, .inl (cI, 60, .inl (nA ro))), (ad 23, .inl (cI, 6, .inl (nA (va_up (beF dm ro wo k i) i (low6 (dm (ro ((6 * k) + i))))))))] H := hP
          have hD : va_D A [(h, .inr (10, oM ad nm mk rd cs)), (ad 1, .inl (cI, 6, .inl (nA dm))), (ad 11, .inl (cI, 10, .inl (nA wi))), (ad 13, .inl (cI, 60, .inl (nA ro))), (ad 23, .inl (cI, 6, .inl (nA (va_up (beF dm ro wo k i) i (low6 (dm (ro ((6 * k) + i))))))))] := hD
          rw [show (va_up (beF dm ro wo k i) i (low6 (dm (ro ((6 * k) + i))))) = beF dm ro wo k (i + 1) from beF_s] at hP hD
          have hgo2 : goF dm ro wo k (wi k) 0 = goF dm ro wo k (wi k - (i + 1)) (i + 1) := by rw [hgo, hsu, goF_f c_39]
          refine lv_iinc (v := (nI (i + 1))) (lv' := [(2, .int (nI (i + 1))), (3, .int (nI ((dm (ro ((6 * k) + i))) / 2 ^ ((wo i) + 1)))), (0, .ref h), (1, .int (nI k))]) hx hb d_M_goOn_88 hl (k := 1) rfl (by exact nI_1 _) (by decide) rfl (fun ls hl => ?_)
          refine lv_goto (tgt := 2) hx hb d_M_goOn_91 (by decide) ?_
          exact ih2 (i + 1) (by omega) (by omega) hgo2 _ _ _ hP hD hS (lv_sub hl [0, 2, 3] rfl)
        · refine lv_aload_n hx hb d_M_goOn_42 rfl (lv_at hl 2 rfl) ?_
          refine r_get C0 hK hP 0 rfl rfl i_M 23 (by decide) wt_686 (fun _ h => h) rfl d_M_goOn_43 ?_
          refine lv_iload_n hx hb d_M_goOn_46 rfl (lv_at hl 1 rfl) ?_
          refine lv_aload_n hx hb d_M_goOn_47 rfl (lv_at hl 2 rfl) ?_
          refine r_get C0 hK hP 0 rfl rfl i_M 23 (by decide) wt_686 (fun _ h => h) rfl d_M_goOn_48 ?_
          refine lv_iload_n hx hb d_M_goOn_51 rfl (lv_at hl 1 rfl) ?_
          refine r_ald C0 hK hP 4 rfl (by omega) (by decide) d_M_goOn_52 ?_
          refine t_eq (y := (nI ((beF dm ro wo k i) i))) rfl ?_
          refine t_eq (y := (nI (wo i))) (by rw [beF_at]) ?_
          refine lv_iconst (v := (nI 1)) hx hb d_M_goOn_53 (by decide) ?_
          refine lv_iadd hx hb d_M_goOn_54 ?_
          refine t_eq (y := (nI ((wo i) + 1))) (nI_add _ _) ?_
          refine lv_iload_n hx hb d_M_goOn_55 rfl (lv_at hl 0 rfl) ?_
          refine call_i (rm := { frames := 0, cells := 0, slots := 0, locals := 0 }) hS hP hD hA (spl_mk (wc := []) (wr := [(h, .inr (10, oM ad nm mk rd cs)), (ad 1, .inl (cI, 6, .inl (nA dm))), (ad 11, .inl (cI, 10, .inl (nA wi))), (ad 13, .inl (cI, 60, .inl (nA ro))), (ad 23, .inl (cI, 6, .inl (nA (beF dm ro wo k i))))]) [] [0, 1, 2, 3, 4] rfl rfl (by decide)) (run_s (n := 1) (As := [.int (nI ((dm (ro ((6 * k) + i))) / 2 ^ ((wo i) + 1)))]) (rest := [.int (nI ((wo i) + 1)), .int (nI i), .ref (ad 23)]) C0 (hK.sub [] rfl) (c_M_lowest l D cI H.size ((dm (ro ((6 * k) + i))) / 2 ^ ((wo i) + 1)) hmo c_39) wt_836 wt_4 wt_834 wt_835 (by decide +kernel) ⟨Nat.le_of_ble_eq_true rfl, Nat.le_of_ble_eq_true rfl⟩ rfl hl.1 rfl (Nat.le_of_ble_eq_true rfl) d_M_goOn_56 ⟨Nat.le_of_ble_eq_true rfl, Nat.le_of_ble_eq_true rfl⟩) (fun r_56 _u56 H locs hw_56 hP hD hS => ?_)
          have hP : va_P D cls [(h, .inr (10, oM ad nm mk rd cs)), (ad 1, .inl (cI, 6, .inl (nA dm))), (ad 11, .inl (cI, 10, .inl (nA wi))), (ad 13, .inl (cI, 60, .inl (nA ro))), (ad 23, .inl (cI, 6, .inl (nA (beF dm ro wo k i))))] H := hP
          have hD : va_D A [(h, .inr (10, oM ad nm mk rd cs)), (ad 1, .inl (cI, 6, .inl (nA dm))), (ad 11, .inl (cI, 10, .inl (nA wi))), (ad 13, .inl (cI, 60, .inl (nA ro))), (ad 23, .inl (cI, 6, .inl (nA (beF dm ro wo k i))))] := hD
          subst hw_56
          refine lv_iadd hx hb d_M_goOn_59 ?_
          refine t_eq (y := (nI (((wo i) + 1) + (low6 ((dm (ro ((6 * k) + i))) / 2 ^ ((wo i) + 1)))))) (nI_add _ _) ?_
          refine r_astN C0 hK hP hD hS 4 rfl (by omega) (by decide) d_M_goOn_60 (fun H locs hP hD hS => ?_)
          have hP : va_P D cls [(h, .inr (10, oM ad nm mk rd cs)), (ad 1, .inl (cI, 6, .inl (nA dm))), (ad 11, .inl (cI, 10, .inl (nA wi))), (ad 13, .inl (cI, 60, .inl (nA ro))), (ad 23, .inl (cI, 6, .inl (nA (va_up (beF dm ro wo k i) i (((wo i) + 1) + (low6 ((dm (ro ((6 * k) + i))) / 2 ^ ((wo i) + 1))))))))] H := hP
          have hD : va_D A [(h, .inr (10, oM ad nm mk rd cs)), (ad 1, .inl (cI, 6, .inl (nA dm))), (ad 11, .inl (cI, 10, .inl (nA wi))), (ad 13, .inl (cI, 60, .inl (nA ro))), (ad 23, .inl (cI, 6, .inl (nA (va_up (beF dm ro wo k i) i (((wo i) + 1) + (low6 ((dm (ro ((6 * k) + i))) / 2 ^ ((wo i) + 1))))))))] := hD
          refine lv_iconst (v := (nI 1)) hx hb d_M_goOn_61 (by decide) ?_
          rw [hsu, goF_t c_39] at hgo
          exact ret_i C0 hr hlk hAe hS (va_up (beF dm ro wo k i) i (((wo i) + 1) + (low6 ((dm (ro ((6 * k) + i))) / 2 ^ ((wo i) + 1))))) (⟨by rw [hgo]; rfl, by rw [hgo]⟩) hP hD rfl (Nat.le_of_ble_eq_true rfl) (Nat.le_of_ble_eq_true rfl) d_M_goOn_62
  exact L2 (wi k + 1) 0 (by omega) (by omega) rfl _ _ _ hP hD hS (lv_sub hl [0, 1, 2] rfl)
def layF (w : Nat) (wo : Nat → Nat) (i : Nat) : Nat → Nat := fun j => if j < i then dgt w j else wo j
theorem layF_0 {w : Nat} {wo : Nat → Nat} : layF w wo 0 = wo := by
  funext j
  unfold layF
  rw [if_neg (by omega)]
theorem layF_s {w i : Nat} {wo : Nat → Nat} : va_up (layF w wo i) i (dgt w i) = layF w wo (i + 1) := by
  funext j
  unfold va_up layF
  by_cases h : j = i
  · subst h
    rw [if_pos rfl, if_pos (by omega)]
  · rw [if_neg h]
    by_cases g : j < i
    · rw [if_pos g, if_pos (by omega)]
    · rw [if_neg g, if_neg (by omega)]
set_option maxHeartbeats 4000000 in
set_option maxRecDepth 100000 in
theorem c_M_lay (l : Launch) (D : va_G) (cI : ClassId) (sz : Nat) (h : Nat) (ad : Nat → Nat) (nm : Nat) (mk : Nat) (rd : Nat) (cs : Nat) (wo : Nat → Nat) (q : Nat) (w : Nat) (hq : q ≤ 6) (hw : w < 2147483648) : MetV l y_M_lay b_M_lay 4 { frames := 0, cells := 0, slots := 0, locals := 0 } D cI [] sz [(h, .inr (10, oM ad nm mk rd cs)), (ad 23, .inl (cI, 6, .inl (nA wo)))] [.ref h, .int (nI q), .int (nI w)] (fun (u : Unit) => True) (fun u : Unit => [(h, .inr (10, oM ad nm mk rd cs)), (ad 23, .inl (cI, 6, .inl (nA (layF w wo q))))]) := by
  refine enter (by decide) (Nat.le_of_ble_eq_true rfl) ?_
  intro p e s m below meth c A ls C0 hr hlk hnm hK hsz hA hAe hP hD hS hl
  have hx := C0.1
  have hb := C0.2.1
  have hl : lv_has ls 4 [(0, .ref h), (1, .int (nI q)), (2, .int (nI w))] := hl
  refine lv_iconst (v := (nI 0)) hx hb d_M_lay_0 (by decide) ?_
  refine lv_istore_n (lv' := [(3, .int (nI 0)), (0, .ref h), (1, .int (nI q)), (2, .int (nI w))]) hx hb d_M_lay_1 rfl hl (by decide) rfl (fun ls hl => ?_)
  rw [show wo = layF w wo 0 from layF_0.symm] at hP hD
  have L2 : ∀ (fuel2 : Nat) (i : Nat), (i ≤ q) → (q < i + fuel2) → ∀ (H : Heap) (locs : List Loc) (ls : Array Slot), va_P D cls [(h, .inr (10, oM ad nm mk rd cs)), (ad 23, .inl (cI, 6, .inl (nA (layF w wo i))))] H → va_D A [(h, .inr (10, oM ad nm mk rd cs)), (ad 23, .inl (cI, 6, .inl (nA (layF w wo i))))] → va_S A s.heap H locs → lv_has ls 4 [(3, .int (nI i)), (0, .ref h), (1, .int (nI q)), (2, .int (nI w))] → W p l e { frames := 0, cells := 0, slots := 0, locals := 0 } s m ([.ref h, .int (nI q), .int (nI w)] : List Value).toArray below meth c H locs 0 0 (MQ below (pstV D [(h, .inr (10, oM ad nm mk rd cs)), (ad 23, .inl (cI, 6, .inl (nA wo)))] sz (fun (u : Unit) => True) (fun u : Unit => [(h, .inr (10, oM ad nm mk rd cs)), (ad 23, .inl (cI, 6, .inl (nA (layF w wo q))))])) ([.ref h, .int (nI q), .int (nI w)] : List Value).toArray s 0 0 A) (F0 m 2 ls []) := by
    intro fuel2
    induction fuel2 with
    | zero => intros; omega
    | succ fuel2 ih2 =>
      intro i hi hfu H locs ls hP hD hS hl
      refine lv_iload_n hx hb d_M_lay_2 rfl (lv_at hl 0 rfl) ?_
      refine lv_iload_n hx hb d_M_lay_3 rfl (lv_at hl 2 rfl) ?_
      refine b_ge (tgt := 27) hx hb (by omega) (by omega) d_M_lay_4 (by decide) (fun c_4 => ?_) (fun c_4 => ?_)
      · have hie : i = q := by omega
        rw [hie] at hP hD
        exact ret_v C0 hr hlk hAe hS () trivial hP hD (Nat.le_of_ble_eq_true rfl) (Nat.le_of_ble_eq_true rfl) d_M_lay_27
      · refine lv_aload_n hx hb d_M_lay_7 rfl (lv_at hl 1 rfl) ?_
        refine r_get C0 hK hP 0 rfl rfl i_M 23 (by decide) wt_686 (fun _ h => h) rfl d_M_lay_8 ?_
        refine lv_iload_n hx hb d_M_lay_11 rfl (lv_at hl 0 rfl) ?_
        refine lv_iload_n hx hb d_M_lay_12 rfl (lv_at hl 3 rfl) ?_
        refine lv_iconst (v := (nI 3)) hx hb d_M_lay_13 (by decide) ?_
        refine lv_iload_n hx hb d_M_lay_14 rfl (lv_at hl 0 rfl) ?_
        refine lv_imul hx hb d_M_lay_15 ?_
        refine t_eq (y := (nI (3 * i))) (pk_mul _ _) ?_
        refine lv_ishr hx hb d_M_lay_16 ?_
        refine t_eq (y := (nI (w / 2 ^ (3 * i)))) (m_shr (by omega) (by omega)) ?_
        refine lv_bipush (v := (nI 7)) hx hb d_M_lay_17 (by decide) ?_
        refine lv_iand hx hb d_M_lay_19 ?_
        refine t_eq (y := (nI (dgt w i))) (m_and7 _) ?_
        have hd_19 := dgt_lt w i
        refine r_astN C0 hK hP hD hS 1 rfl (by omega) (by decide) d_M_lay_20 (fun H locs hP hD hS => ?_)
        have hP : va_P D cls [(h, .inr (10, oM ad nm mk rd cs)), (ad 23, .inl (cI, 6, .inl (nA (va_up (layF w wo i) i (dgt w i)))))] H := hP
        have hD : va_D A [(h, .inr (10, oM ad nm mk rd cs)), (ad 23, .inl (cI, 6, .inl (nA (va_up (layF w wo i) i (dgt w i)))))] := hD
        rw [show (va_up (layF w wo i) i (dgt w i)) = layF w wo (i + 1) from layF_s] at hP hD
        refine lv_iinc (v := (nI (i + 1))) (lv' := [(3, .int (nI (i + 1))), (0, .ref h), (1, .int (nI q)), (2, .int (nI w))]) hx hb d_M_lay_21 hl (k := 0) rfl (by exact nI_1 _) (by decide) rfl (fun ls hl => ?_)
        refine lv_goto (tgt := 2) hx hb d_M_lay_24 (by decide) ?_
        exact ih2 (i + 1) (by omega) (by omega) _ _ _ hP hD hS (lv_sub hl [0, 1, 2, 3] rfl)
  exact L2 (q + 1) 0 (by omega) (by omega) _ _ _ hP hD hS (lv_sub hl [0, 1, 2, 3] rfl)
