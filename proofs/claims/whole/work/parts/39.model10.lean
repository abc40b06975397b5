def filN (f : Nat → Nat) (b : Nat) (h : Nat → Nat) (i : Nat) : Nat → Nat := fun j => if b ≤ j ∧ j < b + i then h (j - b) else f j
theorem filN_0 {f h : Nat → Nat} {b : Nat} : filN f b h 0 = f := by
  funext j
  unfold filN
  rw [if_neg (by omega)]
theorem filN_1 {f h : Nat → Nat} {b i v : Nat} (q : v = h i) : va_up (filN f b h i) (b + i) v = filN f b h (i + 1) := by
  funext j
  unfold va_up filN
  by_cases hj : j = b + i
  · subst hj
    rw [if_pos rfl, if_pos ⟨by omega, by omega⟩, Nat.add_sub_cancel_left, q]
  · rw [if_neg hj]
    by_cases hk : b ≤ j ∧ j < b + i
    · rw [if_pos hk, if_pos ⟨hk.1, by omega⟩]
    · rw [if_neg hk, if_neg (fun q => hk ⟨q.1, by omega⟩)]
abbrev mkT : Type := Nat × (Nat → Nat) × (Nat → Int32) × (Nat → Int32)
def markS (nm mk : Nat) (dm kd : Nat → Nat) (rs rn kr kn : Nat → Int32) : Int32 × mkT := if mk = 8 then (-3, mk, kd, kr, kn) else (nI (mk + 1), mk + 1, filN kd (6 * mk) dm nm, fil kr (36 * mk) rs (6 * nm), fil kn (36 * mk) rn (6 * nm))
def backS (nm mk : Nat) (dm kd : Nat → Nat) (rs rn kr kn : Nat → Int32) : Int32 × mkT := if mk = 0 then (-1, mk, dm, rs, rn) else (nI (mk - 1), mk - 1, filN dm 0 (fun i => kd (6 * (mk - 1) + i)) nm, fil rs 0 (fun i => kr (36 * (mk - 1) + i)) (6 * nm), fil rn 0 (fun i => kn (36 * (mk - 1) + i)) (6 * nm))
set_option maxHeartbeats 4000000 in
set_option maxRecDepth 100000 in
theorem c_M_mark (l : Launch) (D : va_G) (cI : ClassId) (sz : Nat) (h : Nat) (ad : Nat → Nat) (nm : Nat) (mk : Nat) (rd : Nat) (cs : Nat) (dm : Nat → Nat) (kd : Nat → Nat) (rs : Nat → Int32) (rn : Nat → Int32) (kr : Nat → Int32) (kn : Nat → Int32) (hnm : nm ≤ 6) (hmk : mk ≤ 8) : MetI l y_M_mark b_M_mark 2 (some .int) { frames := 0, cells := 0, slots := 0, locals := 0 } D cI [] sz [(h, .inr (10, oM ad nm mk rd cs)), (ad 1, .inl (cI, 6, .inl (nA dm))), (ad 2, .inl (cI, 36, .inl rs)), (ad 3, .inl (cI, 36, .inl rn)), (ad 5, .inl (cI, 48, .inl (nA kd))), (ad 6, .inl (cI, 288, .inl kr)), (ad 7, .inl (cI, 288, .inl kn))] [.ref h] (fun (r : Int32) (u : mkT) => (r, u) = markS nm mk dm kd rs rn kr kn) (fun u : mkT => [(h, .inr (10, oM ad nm u.1 rd cs)), (ad 1, .inl (cI, 6, .inl (nA dm))), (ad 2, .inl (cI, 36, .inl rs)), (ad 3, .inl (cI, 36, .inl rn)), (ad 5, .inl (cI, 48, .inl (nA u.2.1))), (ad 6, .inl (cI, 288, .inl u.2.2.1)), (ad 7, .inl (cI, 288, .inl u.2.2.2))]) := by
  refine enter (by decide) (Nat.le_of_ble_eq_true rfl) ?_
  intro p e s m below meth c A ls C0 hr hlk hnm hK hsz hA hAe hP hD hS hl
  have hx := C0.1
  have hb := C0.2.1
  have hl : lv_has ls 2 [(0, .ref h)] := hl
  refine lv_aload_n hx hb d_M_mark_0 rfl (lv_at hl 0 rfl) ?_
  refine r_get C0 hK hP 0 rfl rfl i_M 4 (by decide) wt_667 (fun _ h => h) rfl d_M_mark_1 ?_
  refine lv_bipush (v := (nI 8)) hx hb d_M_mark_4 (by decide) ?_
  refine b_ne (tgt := 12) hx hb (by omega) (by decide) d_M_mark_6 (by decide) (fun c_6 => ?_) (fun c_6 => ?_)
  · refine lv_iconst (v := (nI 0)) hx hb d_M_mark_12 (by decide) ?_
    refine lv_istore_n (lv' := [(1, .int (nI 0)), (0, .ref h)]) hx hb d_M_mark_13 rfl hl (by decide) rfl (fun ls hl => ?_)
    rw [show kd = filN kd (6 * mk) dm 0 from filN_0.symm] at hP hD
    have L14 : ∀ (fuel14 : Nat) (i : Nat), (i ≤ nm) → (nm < i + fuel14) → ∀ (H : Heap) (locs : List Loc) (ls : Array Slot), va_P D cls [(h, .inr (10, oM ad nm mk rd cs)), (ad 1, .inl (cI, 6, .inl (nA dm))), (ad 2, .inl (cI, 36, .inl rs)), (ad 3, .inl (cI, 36, .inl rn)), (ad 5, .inl (cI, 48, .inl (nA (filN kd (6 * mk) dm i)))), (ad 6, .inl (cI, 288, .inl kr)), (ad 7, .inl (cI, 288, .inl kn))] H → va_D A [(h, .inr (10, oM ad nm mk rd cs)), (ad 1, .inl (cI, 6, .inl (nA dm))), (ad 2, .inl (cI, 36, .inl rs)), (ad 3, .inl (cI, 36, .inl rn)), (ad 5, .inl (cI, 48, .inl (nA (filN kd (6 * mk) dm i)))), (ad 6, .inl (cI, 288, .inl kr)), (ad 7, .inl (cI, 288, .inl kn))] → va_S A s.heap H locs → lv_has ls 2 [(1, .int (nI i)), (0, .ref h)] → W p l e { frames := 0, cells := 0, slots := 0, locals := 0 } s m ([.ref h] : List Value).toArray below meth c H locs 0 0 (MQ below (pstI D [(h, .inr (10, oM ad nm mk rd cs)), (ad 1, .inl (cI, 6, .inl (nA dm))), (ad 2, .inl (cI, 36, .inl rs)), (ad 3, .inl (cI, 36, .inl rn)), (ad 5, .inl (cI, 48, .inl (nA kd))), (ad 6, .inl (cI, 288, .inl kr)), (ad 7, .inl (cI, 288, .inl kn))] sz (fun (r : Int32) (u : mkT) => (r, u) = markS nm mk dm kd rs rn kr kn) (fun u : mkT => [(h, .inr (10, oM ad nm u.1 rd cs)), (ad 1, .inl (cI, 6, .inl (nA dm))), (ad 2, .inl (cI, 36, .inl rs)), (ad 3, .inl (cI, 36, .inl rn)), (ad 5, .inl (cI, 48, .inl (nA u.2.1))), (ad 6, .inl (cI, 288, .inl u.2.2.1)), (ad 7, .inl (cI, 288, .inl u.2.2.2))])) ([.ref h] : List Value).toArray s 0 0 A) (F0 m 14 ls []) := by
      intro fuel14
      induction fuel14 with
      | zero => intros; omega
      | succ fuel14 ih14 =>
        intro i hi hfu H locs ls hP hD hS hl
        refine lv_iload_n hx hb d_M_mark_14 rfl (lv_at hl 0 rfl) ?_
        refine lv_aload_n hx hb d_M_mark_15 rfl (lv_at hl 1 rfl) ?_
        refine r_get C0 hK hP 0 rfl rfl i_M 0 (by decide) wt_663 (fun _ h => h) rfl d_M_mark_16 ?_
        refine b_ge (tgt := 48) hx hb (by omega) (by omega) d_M_mark_19 (by decide) (fun c_19 => ?_) (fun c_19 => ?_)
        · obtain rfl : nm = i := (by omega)
          refine lv_iconst (v := (nI 0)) hx hb d_M_mark_48 (by decide) ?_
          refine lv_istore_n (lv' := [(1, .int (nI 0)), (0, .ref h)]) hx hb d_M_mark_49 rfl hl (by decide) rfl (fun ls hl => ?_)
          rw [show kr = fil kr (36 * mk) rs 0 from fil_0.symm] at hP hD
          rw [show kn = fil kn (36 * mk) rn 0 from fil_0.symm] at hP hD
          have L50 : ∀ (fuel50 : Nat) (i2 : Nat), (i2 ≤ 6 * nm) → (6 * nm < i2 + fuel50) → ∀ (H : Heap) (locs : List Loc) (ls : Array Slot), va_P D cls [(h, .inr (10, oM ad nm mk rd cs)), (ad 1, .inl (cI, 6, .inl (nA dm))), (ad 2, .inl (cI, 36, .inl rs)), (ad 3, .inl (cI, 36, .inl rn)), (ad 5, .inl (cI, 48, .inl (nA (filN kd (6 * mk) dm nm)))), (ad 6, .inl (cI, 288, .inl (fil kr (36 * mk) rs i2))), (ad 7, .inl (cI, 288, .inl (fil kn (36 * mk) rn i2)))] H → va_D A [(h, .inr (10, oM ad nm mk rd cs)), (ad 1, .inl (cI, 6, .inl (nA dm))), (ad 2, .inl (cI, 36, .inl rs)), (ad 3, .inl (cI, 36, .inl rn)), (ad 5, .inl (cI, 48, .inl (nA (filN kd (6 * mk) dm nm)))), (ad 6, .inl (cI, 288, .inl (fil kr (36 * mk) rs i2))), (ad 7, .inl (cI, 288, .inl (fil kn (36 * mk) rn i2)))] → va_S A s.heap H locs → lv_has ls 2 [(1, .int (nI i2)), (0, .ref h)] → W p l e { frames := 0, cells := 0, slots := 0, locals := 0 } s m ([.ref h] : List Value).toArray below meth c H locs 0 0 (MQ below (pstI D [(h, .inr (10, oM ad nm mk rd cs)), (ad 1, .inl (cI, 6, .inl (nA dm))), (ad 2, .inl (cI, 36, .inl rs)), (ad 3, .inl (cI, 36, .inl rn)), (ad 5, .inl (cI, 48, .inl (nA kd))), (ad 6, .inl (cI, 288, .inl kr)), (ad 7, .inl (cI, 288, .inl kn))] sz (fun (r : Int32) (u : mkT) => (r, u) = markS nm mk dm kd rs rn kr kn) (fun u : mkT => [(h, .inr (10, oM ad nm u.1 rd cs)), (ad 1, .inl (cI, 6, .inl (nA dm))), (ad 2, .inl (cI, 36, .inl rs)), (ad 3, .inl (cI, 36, .inl rn)), (ad 5, .inl (cI, 48, .inl (nA u.2.1))), (ad 6, .inl (cI, 288, .inl u.2.2.1)), (ad 7, .inl (cI, 288, .inl u.2.2.2))])) ([.ref h] : List Value).toArray s 0 0 A) (F0 m 50 ls []) := by
            intro fuel50
            induction fuel50 with
            | zero => intros; omega
            | succ fuel50 ih50 =>
              intro i2 hi2 hfu2 H locs ls hP hD hS hl
              refine lv_iload_n hx hb d_M_mark_50 rfl (lv_at hl 0 rfl) ?_
              refine lv_bipush (v := (nI 6)) hx hb d_M_mark_51 (by decide) ?_
              refine lv_aload_n hx hb d_M_mark_53 rfl (lv_at hl 1 rfl) ?_
              refine r_get C0 hK hP 0 rfl rfl i_M 0 (by decide) wt_663 (fun _ h => h) rfl d_M_mark_54 ?_
              refine lv_imul hx hb d_M_mark_57 ?_
              refine t_eq (y := (nI (6 * nm))) (pk_mul _ _) ?_
              refine b_ge (tgt := 107) hx hb (by omega) (by omega) d_M_mark_58 (by decide) (fun c_58 => ?_) (fun c_58 => ?_)
              · have hie : i2 = 6 * nm := by omega
                rw [hie] at hP hD
                refine lv_aload_n hx hb d_M_mark_107 rfl (lv_at hl 1 rfl) ?_
                refine lv_dup hx hb d_M_mark_108 rfl ?_
                refine r_get C0 hK hP 0 rfl rfl i_M 4 (by decide) wt_667 (fun _ h => h) rfl d_M_mark_109 ?_
                refine lv_iconst (v := (nI 1)) hx hb d_M_mark_112 (by decide) ?_
                refine lv_iadd hx hb d_M_mark_113 ?_
                refine t_eq (y := (nI (mk + 1))) (nI_add _ _) ?_
                refine r_put C0 hK hP hD hS 0 rfl rfl i_M t_M k_M n_M 4 (by decide) wt_667 (fun _ h => h) rfl rfl rfl (Nat.le_of_ble_eq_true rfl) d_M_mark_114 (fun H locs hP hD hS => ?_)
                have hP : va_P D cls [(h, .inr (10, oM ad nm (mk + 1) rd cs)), (ad 1, .inl (cI, 6, .inl (nA dm))), (ad 2, .inl (cI, 36, .inl rs)), (ad 3, .inl (cI, 36, .inl rn)), (ad 5, .inl (cI, 48, .inl (nA (filN kd (6 * mk) dm nm)))), (ad 6, .inl (cI, 288, .inl (fil kr (36 * mk) rs (6 * nm)))), (ad 7, .inl (cI, 288, .inl (fil kn (36 * mk) rn (6 * nm))))] H := hP
                have hD : va_D A [(h, .inr (10, oM ad nm (mk + 1) rd cs)), (ad 1, .inl (cI, 6, .inl (nA dm))), (ad 2, .inl (cI, 36, .inl rs)), (ad 3, .inl (cI, 36, .inl rn)), (ad 5, .inl (cI, 48, .inl (nA (filN kd (6 * mk) dm nm)))), (ad 6, .inl (cI, 288, .inl (fil kr (36 * mk) rs (6 * nm)))), (ad 7, .inl (cI, 288, .inl (fil kn (36 * mk) rn (6 * nm))))] := hD
                refine lv_aload_n hx hb d_M_mark_117 rfl (lv_at hl 1 rfl) ?_
                refine r_get C0 hK hP 0 rfl rfl i_M 4 (by decide) wt_667 (fun _ h => h) rfl d_M_mark_118 ?_
                exact ret_i C0 hr hlk hAe hS (mk + 1, filN kd (6 * mk) dm nm, fil kr (36 * mk) rs (6 * nm), fil kn (36 * mk) rn (6 * nm)) (by unfold markS; rw [if_neg c_6]) hP hD rfl (Nat.le_of_ble_eq_true rfl) (Nat.le_of_ble_eq_true rfl) d_M_mark_121
              · refine lv_aload_n hx hb d_M_mark_61 rfl (lv_at hl 1 rfl) ?_
                refine r_get C0 hK hP 0 rfl rfl i_M 6 (by decide) wt_669 (fun _ h => h) rfl d_M_mark_62 ?_
                refine lv_bipush (v := (nI 36)) hx hb d_M_mark_65 (by decide) ?_
                refine lv_aload_n hx hb d_M_mark_67 rfl (lv_at hl 1 rfl) ?_
                refine r_get C0 hK hP 0 rfl rfl i_M 4 (by decide) wt_667 (fun _ h => h) rfl d_M_mark_68 ?_
                refine lv_imul hx hb d_M_mark_71 ?_
                refine t_eq (y := (nI (36 * mk))) (pk_mul _ _) ?_
                refine lv_iload_n hx hb d_M_mark_72 rfl (lv_at hl 0 rfl) ?_
                refine lv_iadd hx hb d_M_mark_73 ?_
                refine t_eq (y := (nI ((36 * mk) + i2))) (nI_add _ _) ?_
                refine lv_aload_n hx hb d_M_mark_74 rfl (lv_at hl 1 rfl) ?_
                refine r_get C0 hK hP 0 rfl rfl i_M 2 (by decide) wt_665 (fun _ h => h) rfl d_M_mark_75 ?_
                refine lv_iload_n hx hb d_M_mark_78 rfl (lv_at hl 0 rfl) ?_
                refine r_ald C0 hK hP 2 rfl (by omega) (by decide) d_M_mark_79 ?_
                refine r_ast C0 hK hP hD hS 5 rfl (by omega) (by decide) d_M_mark_80 (fun H locs hP hD hS => ?_)
                have hP : va_P D cls [(h, .inr (10, oM ad nm mk rd cs)), (ad 1, .inl (cI, 6, .inl (nA dm))), (ad 2, .inl (cI, 36, .inl rs)), (ad 3, .inl (cI, 36, .inl rn)), (ad 5, .inl (cI, 48, .inl (nA (filN kd (6 * mk) dm nm)))), (ad 6, .inl (cI, 288, .inl (upd (fil kr (36 * mk) rs i2) ((36 * mk) + i2) (rs i2)))), (ad 7, .inl (cI, 288, .inl (fil kn (36 * mk) rn i2)))] H := hP
                have hD : va_D A [(h, .inr (10, oM ad nm mk rd cs)), (ad 1, .inl (cI, 6, .inl (nA dm))), (ad 2, .inl (cI, 36, .inl rs)), (ad 3, .inl (cI, 36, .inl rn)), (ad 5, .inl (cI, 48, .inl (nA (filN kd (6 * mk) dm nm)))), (ad 6, .inl (cI, 288, .inl (upd (fil kr (36 * mk) rs i2) ((36 * mk) + i2) (rs i2)))), (ad 7, .inl (cI, 288, .inl (fil kn (36 * mk) rn i2)))] := hD
                refine lv_aload_n hx hb d_M_mark_81 rfl (lv_at hl 1 rfl) ?_
                refine r_get C0 hK hP 0 rfl rfl i_M 7 (by decide) wt_670 (fun _ h => h) rfl d_M_mark_82 ?_
                refine lv_bipush (v := (nI 36)) hx hb d_M_mark_85 (by decide) ?_
                refine lv_aload_n hx hb d_M_mark_87 rfl (lv_at hl 1 rfl) ?_
                refine r_get C0 hK hP 0 rfl rfl i_M 4 (by decide) wt_667 (fun _ h => h) rfl d_M_mark_88 ?_
                refine lv_imul hx hb d_M_mark_91 ?_
                refine t_eq (y := (nI (36 * mk))) (pk_mul _ _) ?_
                refine lv_iload_n hx hb d_M_mark_92 rfl (lv_at hl 0 rfl) ?_
                refine lv_iadd hx hb d_M_mark_93 ?_
                refine t_eq (y := (nI ((36 * mk) + i2))) (nI_add _ _) ?_
                refine lv_aload_n hx hb d_M_mark_94 rfl (lv_at hl 1 rfl) ?_
                refine r_get C0 hK hP 0 rfl rfl i_M 3 (by decide) wt_666 (fun _ h => h) rfl d_M_mark_95 ?_
                refine lv_iload_n hx hb d_M_mark_98 rfl (lv_at hl 0 rfl) ?_
                refine r_ald C0 hK hP 3 rfl (by omega) (by decide) d_M_mark_99 ?_
                refine r_ast C0 hK hP hD hS 6 rfl (by omega) (by decide) d_M_mark_100 (fun H locs hP hD hS => ?_)
                have hP : va_P D cls [(h, .inr (10, oM ad nm mk rd cs)), (ad 1, .inl (cI, 6, .inl (nA dm))), (ad 2, .inl (cI, 36, .inl rs)), (ad 3, .inl (cI, 36, .inl rn)), (ad 5, .inl (cI, 48, .inl (nA (filN kd (6 * mk) dm nm)))), (ad 6, .inl (cI, 288, .inl (upd (fil kr (36 * mk) rs i2) ((36 * mk) + i2) (rs i2)))), (ad 7, .inl (cI, 288, .inl (upd (fil kn (36 * mk) rn i2) ((36 * mk) + i2) (rn i2))))] H := hP
                have hD : va_D A [(h, .inr (10, oM ad nm mk rd cs)), (ad 1, .inl (cI, 6, .inl (nA dm))), (ad 2, .inl (cI, 36, .inl rs)), (ad 3, .inl (cI, 36, .inl rn)), (ad 5, .inl (cI, 48, .inl (nA (filN kd (6 * mk) dm nm)))), (ad 6, .inl (cI, 288, .inl (upd (fil kr (36 * mk) rs i2) ((36 * mk) + i2) (rs i2)))), (ad 7, .inl (cI, 288, .inl (upd (fil kn (36 * mk) rn i2) ((36 * mk) + i2) (rn i2))))] := hD
                rw [show (upd (fil kr (36 * mk) rs i2) ((36 * mk) + i2) (rs i2)) = fil kr (36 * mk) rs (i2 + 1) from fil_1 rfl] at hP hD
                rw [show (upd (fil kn (36 * mk) rn i2) ((36 * mk) + i2) (rn i2)) = fil kn (36 * mk) rn (i2 + 1) from fil_1 rfl] at hP hD
                refine lv_iinc (v := (nI (i2 + 1))) (lv' := [(1, .int (nI (i2 + 1))), (0, .ref h)]) hx hb d_M_mark_101 hl (k := 0) rfl (by exact nI_1 _) (by decide) rfl (fun ls hl => ?_)
                refine lv_goto (tgt := 50) hx hb d_M_mark_104 (by decide) ?_
                exact ih50 (i2 + 1) (by omega) (by omega) _ _ _ hP hD hS (lv_sub hl [0, 1] rfl)
          exact L50 (6 * nm + 1) 0 (by omega) (by omega) _ _ _ hP hD hS (lv_sub hl [0, 1] rfl)
        · refine lv_aload_n hx hb d_M_mark_22 rfl (lv_at hl 1 rfl) ?_
          refine r_get C0 hK hP 0 rfl rfl i_M 5 (by decide) wt_668 (fun _ h => h) rfl d_M_mark_23 ?_
          refine lv_bipush (v := (nI 6)) hx hb d_M_mark_26 (by decide) ?_
          refine lv_aload_n hx hb d_M_mark_28 rfl (lv_at hl 1 rfl) ?_
          refine r_get C0 hK hP 0 rfl rfl i_M 4 (by decide) wt_667 (fun _ h => h) rfl d_M_mark_29 ?_
          refine lv_imul hx hb d_M_mark_32 ?_
          refine t_eq (y := (nI (6 * mk))) (pk_mul _ _) ?_
          refine lv_iload_n hx hb d_M_mark_33 rfl (lv_at hl 0 rfl) ?_
          refine lv_iadd hx hb d_M_mark_34 ?_
          refine t_eq (y := (nI ((6 * mk) + i))) (nI_add _ _) ?_
          refine lv_aload_n hx hb d_M_mark_35 rfl (lv_at hl 1 rfl) ?_
          refine r_get C0 hK hP 0 rfl rfl i_M 1 (by decide) wt_664 (fun _ h => h) rfl d_M_mark_36 ?_
          refine lv_iload_n hx hb d_M_mark_39 rfl (lv_at hl 0 rfl) ?_
          refine r_ald C0 hK hP 1 rfl (by omega) (by decide) d_M_mark_40 ?_
          refine t_eq (y := (nI (dm i))) rfl ?_
          refine r_astN C0 hK hP hD hS 4 rfl (by omega) (by decide) d_M_mark_41 (fun H locs hP hD hS => ?_)
          have hP : va_P D cls [(h, .inr (10, oM ad nm mk rd cs)), (ad 1, .inl (cI, 6, .inl (nA dm))), (ad 2, .inl (cI, 36, .inl rs)), (ad 3, .inl (cI, 36, .inl rn)), (ad 5, .inl (cI, 48, .inl (nA (va_up (filN kd (6 * mk) dm i) ((6 * mk) + i) (dm i))))), (ad 6, .inl (cI, 288, .inl kr)), (ad 7, .inl (cI, 288, .inl kn))] H := hP
          have hD : va_D A [(h, .inr (10, oM ad nm mk rd cs)), (ad 1, .inl (cI, 6, .inl (nA dm))), (ad 2, .inl (cI, 36, .inl rs)), (ad 3, .inl (cI, 36, .inl rn)), (ad 5, .inl (cI, 48, .inl (nA (va_up (filN kd (6 * mk) dm i) ((6 * mk) + i) (dm i))))), (ad 6, .inl (cI, 288, .inl kr)), (ad 7, .inl (cI, 288, .inl kn))] := hD
          rw [show (va_up (filN kd (6 * mk) dm i) ((6 * mk) + i) (dm i)) = filN kd (6 * mk) dm (i + 1) from filN_1 rfl] at hP hD
          refine lv_iinc (v := (nI (i + 1))) (lv' := [(1, .int (nI (i + 1))), (0, .ref h)]) hx hb d_M_mark_42 hl (k := 0) rfl (by exact nI_1 _) (by decide) rfl (fun ls hl => ?_)
          refine lv_goto (tgt := 14) hx hb d_M_mark_45 (by decide) ?_
          exact ih14 (i + 1) (by omega) (by omega) _ _ _ hP hD hS (lv_sub hl [0, 1] rfl)
    exact L14 (nm + 1) 0 (by omega) (by omega) _ _ _ hP hD hS (lv_sub hl [0, 1] rfl)
  · refine lv_bipush (v := (-3)) hx hb d_M_mark_9 (by decide) ?_
    exact ret_i C0 hr hlk hAe hS (mk, kd, kr, kn) (by unfold markS; rw [if_pos c_6]) hP hD rfl (Nat.le_of_ble_eq_true rfl) (Nat.le_of_ble_eq_true rfl) d_M_mark_11
set_option maxHeartbeats 4000000 in
set_option maxRecDepth 100000 in
theorem c_M_back (l : Launch) (D : va_G) (cI : ClassId) (sz : Nat) (h : Nat) (ad : Nat → Nat) (nm : Nat) (mk : Nat) (rd : Nat) (cs : Nat) (dm : Nat → Nat) (kd : Nat → Nat) (rs : Nat → Int32) (rn : Nat → Int32) (kr : Nat → Int32) (kn : Nat → Int32) (hnm : nm ≤ 6) (hmk : mk ≤ 8) : MetI l y_M_back b_M_back 2 (some .int) { frames := 0, cells := 0, slots := 0, locals := 0 } D cI [] sz [(h, .inr (10, oM ad nm mk rd cs)), (ad 1, .inl (cI, 6, .inl (nA dm))), (ad 2, .inl (cI, 36, .inl rs)), (ad 3, .inl (cI, 36, .inl rn)), (ad 5, .inl (cI, 48, .inl (nA kd))), (ad 6, .inl (cI, 288, .inl kr)), (ad 7, .inl (cI, 288, .inl kn))] [.ref h] (fun (r : Int32) (u : mkT) => (r, u) = backS nm mk dm kd rs rn kr kn) (fun u : mkT => [(h, .inr (10, oM ad nm u.1 rd cs)), (ad 1, .inl (cI, 6, .inl (nA u.2.1))), (ad 2, .inl (cI, 36, .inl u.2.2.1)), (ad 3, .inl (cI, 36, .inl u.2.2.2)), (ad 5, .inl (cI, 48, .inl (nA kd))), (ad 6, .inl (cI, 288, .inl kr)), (ad 7, .inl (cI, 288, .inl kn))]) := by
  refine enter (by decide) (Nat.le_of_ble_eq_true rfl) ?_
  intro p e s m below meth c A ls C0 hr hlk hnm hK hsz hA hAe hP hD hS hl
  have hx := C0.1
  have hb := C0.2.1
  have hl : lv_has ls 2 [(0, .ref h)] := hl
  refine lv_aload_n hx hb d_M_back_0 rfl (lv_at hl 0 rfl) ?_
  refine r_get C0 hK hP 0 rfl rfl i_M 4 (by decide) wt_667 (fun _ h => h) rfl d_M_back_1 ?_
  refine z_ne (tgt := 9) hx hb (by omega) d_M_back_4 (by decide) (fun c_4 => ?_) (fun c_4 => ?_)
  · refine lv_aload_n hx hb d_M_back_9 rfl (lv_at hl 0 rfl) ?_
    refine lv_dup hx hb d_M_back_10 rfl ?_
    refine r_get C0 hK hP 0 rfl rfl i_M 4 (by decide) wt_667 (fun _ h => h) rfl d_M_back_11 ?_
    refine lv_iconst (v := (nI 1)) hx hb d_M_back_14 (by decide) ?_
    refine lv_isub hx hb d_M_back_15 ?_
    refine t_eq (y := (nI (mk - 1))) (pk_sub (by omega)) ?_
    refine r_put C0 hK hP hD hS 0 rfl rfl i_M t_M k_M n_M 4 (by decide) wt_667 (fun _ h => h) rfl rfl rfl (Nat.le_of_ble_eq_true rfl) d_M_back_16 (fun H locs hP hD hS => ?_)
    have hP : va_P D cls [(h, .inr (10, oM ad nm (mk - 1) rd cs)), (ad 1, .inl (cI, 6, .inl (nA dm))), (ad 2, .inl (cI, 36, .inl rs)), (ad 3, .inl (cI, 36, .inl rn)), (ad 5, .inl (cI, 48, .inl (nA kd))), (ad 6, .inl (cI, 288, .inl kr)), (ad 7, .inl (cI, 288, .inl kn))] H := hP
    have hD : va_D A [(h, .inr (10, oM ad nm (mk - 1) rd cs)), (ad 1, .inl (cI, 6, .inl (nA dm))), (ad 2, .inl (cI, 36, .inl rs)), (ad 3, .inl (cI, 36, .inl rn)), (ad 5, .inl (cI, 48, .inl (nA kd))), (ad 6, .inl (cI, 288, .inl kr)), (ad 7, .inl (cI, 288, .inl kn))] := hD
    refine lv_iconst (v := (nI 0)) hx hb d_M_back_19 (by decide) ?_
    refine lv_istore_n (lv' := [(1, .int (nI 0)), (0, .ref h)]) hx hb d_M_back_20 rfl hl (by decide) rfl (fun ls hl => ?_)
    rw [show dm = filN dm 0 (fun i => kd (6 * (mk - 1) + i)) 0 from filN_0.symm] at hP hD
    have L21 : ∀ (fuel21 : Nat) (j1 : Nat), (j1 ≤ nm) → (nm < j1 + fuel21) → ∀ (H : Heap) (locs : List Loc) (ls : Array Slot), va_P D cls [(h, .inr (10, oM ad nm (mk - 1) rd cs)), (ad 1, .inl (cI, 6, .inl (nA (filN dm 0 (fun i => kd (6 * (mk - 1) + i)) j1)))), (ad 2, .inl (cI, 36, .inl rs)), (ad 3, .inl (cI, 36, .inl rn)), (ad 5, .inl (cI, 48, .inl (nA kd))), (ad 6, .inl (cI, 288, .inl kr)), (ad 7, .inl (cI, 288, .inl kn))] H → va_D A [(h, .inr (10, oM ad nm (mk - 1) rd cs)), (ad 1, .inl (cI, 6, .inl (nA (filN dm 0 (fun i => kd (6 * (mk - 1) + i)) j1)))), (ad 2, .inl (cI, 36, .inl rs)), (ad 3, .inl (cI, 36, .inl rn)), (ad 5, .inl (cI, 48, .inl (nA kd))), (ad 6, .inl (cI, 288, .inl kr)), (ad 7, .inl (cI, 288, .inl kn))] → va_S A s.heap H locs → lv_has ls 2 [(1, .int (nI j1)), (0, .ref h)] → W p l e { frames := 0, cells := 0, slots := 0, locals := 0 } s m ([.ref h] : List Value).toArray below meth c H locs 0 0 (MQ below (pstI D [(h, .inr (10, oM ad nm mk rd cs)), (ad 1, .inl (cI, 6, .inl (nA dm))), (ad 2, .inl (cI, 36, .inl rs)), (ad 3, .inl (cI, 36, .inl rn)), (ad 5, .inl (cI, 48, .inl (nA kd))), (ad 6, .inl (cI, 288, .inl kr)), (ad 7, .inl (cI, 288, .inl kn))] sz (fun (r : Int32) (u : mkT) => (r, u) = backS nm mk dm kd rs rn kr kn) (fun u : mkT => [(h, .inr (10, oM ad nm u.1 rd cs)), (ad 1, .inl (cI, 6, .inl (nA u.2.1))), (ad 2, .inl (cI, 36, .inl u.2.2.1)), (ad 3, .inl (cI, 36, .inl u.2.2.2)), (ad 5, .inl (cI, 48, .inl (nA kd))), (ad 6, .inl (cI, 288, .inl kr)), (ad 7, .inl (cI, 288, .inl kn))])) ([.ref h] : List Value).toArray s 0 0 A) (F0 m 21 ls []) := by
      intro fuel21
      induction fuel21 with
      | zero => intros; omega
      | succ fuel21 ih21 =>
        intro j1 hi hfu H locs ls hP hD hS hl
        refine lv_iload_n hx hb d_M_back_21 rfl (lv_at hl 0 rfl) ?_
        refine lv_aload_n hx hb d_M_back_22 rfl (lv_at hl 1 rfl) ?_
        refine r_get C0 hK hP 0 rfl rfl i_M 0 (by decide) wt_663 (fun _ h => h) rfl d_M_back_23 ?_
        refine b_ge (tgt := 55) hx hb (by omega) (by omega) d_M_back_26 (by decide) (fun c_26 => ?_) (fun c_26 => ?_)
        · obtain rfl : nm = j1 := (by omega)
          refine lv_iconst (v := (nI 0)) hx hb d_M_back_55 (by decide) ?_
          refine lv_istore_n (lv' := [(1, .int (nI 0)), (0, .ref h)]) hx hb d_M_back_56 rfl hl (by decide) rfl (fun ls hl => ?_)
          rw [show rs = fil rs 0 (fun i => kr (36 * (mk - 1) + i)) 0 from fil_0.symm] at hP hD
          rw [show rn = fil rn 0 (fun i => kn (36 * (mk - 1) + i)) 0 from fil_0.symm] at hP hD
          have L57 : ∀ (fuel57 : Nat) (j2 : Nat), (j2 ≤ 6 * nm) → (6 * nm < j2 + fuel57) → ∀ (H : Heap) (locs : List Loc) (ls : Array Slot), va_P D cls [(h, .inr (10, oM ad nm (mk - 1) rd cs)), (ad 1, .inl (cI, 6, .inl (nA (filN dm 0 (fun i => kd (6 * (mk - 1) + i)) nm)))), (ad 2, .inl (cI, 36, .inl (fil rs 0 (fun i => kr (36 * (mk - 1) + i)) j2))), (ad 3, .inl (cI, 36, .inl (fil rn 0 (fun i => kn (36 * (mk - 1) + i)) j2))), (ad 5, .inl (cI, 48, .inl (nA kd))), (ad 6, .inl (cI, 288, .inl kr)), (ad 7, .inl (cI, 288, .inl kn))] H → va_D A [(h, .inr (10, oM ad nm (mk - 1) rd cs)), (ad 1, .inl (cI, 6, .inl (nA (filN dm 0 (fun i => kd (6 * (mk - 1) + i)) nm)))), (ad 2, .inl (cI, 36, .inl (fil rs 0 (fun i => kr (36 * (mk - 1) + i)) j2))), (ad 3, .inl (cI, 36, .inl (fil rn 0 (fun i => kn (36 * (mk - 1) + i)) j2))), (ad 5, .inl (cI, 48, .inl (nA kd))), (ad 6, .inl (cI, 288, .inl kr)), (ad 7, .inl (cI, 288, .inl kn))] → va_S A s.heap H locs → lv_has ls 2 [(1, .int (nI j2)), (0, .ref h)] → W p l e { frames := 0, cells := 0, slots := 0, locals := 0 } s m ([.ref h] : List Value).toArray below meth c H locs 0 0 (MQ below (pstI D [(h, .inr (10, oM ad nm mk rd cs)), (ad 1, .inl (cI, 6, .inl (nA dm))), (ad 2, .inl (cI, 36, .inl rs)), (ad 3, .inl (cI, 36, .inl rn)), (ad 5, .inl (cI, 48, .inl (nA kd))), (ad 6, .inl (cI, 288, .inl kr)), (ad 7, .inl (cI, 288, .inl kn))] sz (fun (r : Int32) (u : mkT) => (r, u) = backS nm mk dm kd rs rn kr kn) (fun u : mkT => [(h, .inr (10, oM ad nm u.1 rd cs)), (ad 1, .inl (cI, 6, .inl (nA u.2.1))), (ad 2, .inl (cI, 36, .inl u.2.2.1)), (ad 3, .inl (cI, 36, .inl u.2.2.2)), (ad 5, .inl (cI, 48, .inl (nA kd))), (ad 6, .inl (cI, 288, .inl kr)), (ad 7, .inl (cI, 288, .inl kn))])) ([.ref h] : List Value).toArray s 0 0 A) (F0 m 57 ls []) := by
            intro fuel57
            induction fuel57 with
            | zero => intros; omega
            | succ fuel57 ih57 =>
              intro j2 hi2 hfu2 H locs ls hP hD hS hl
              refine lv_iload_n hx hb d_M_back_57 rfl (lv_at hl 0 rfl) ?_
              refine lv_bipush (v := (nI 6)) hx hb d_M_back_58 (by decide) ?_
              refine lv_aload_n hx hb d_M_back_60 rfl (lv_at hl 1 rfl) ?_
              refine r_get C0 hK hP 0 rfl rfl i_M 0 (by decide) wt_663 (fun _ h => h) rfl d_M_back_61 ?_
              refine lv_imul hx hb d_M_back_64 ?_
              refine t_eq (y := (nI (6 * nm))) (pk_mul _ _) ?_
              refine b_ge (tgt := 114) hx hb (by omega) (by omega) d_M_back_65 (by decide) (fun c_65 => ?_) (fun c_65 => ?_)
              · have hie : j2 = 6 * nm := by omega
                rw [hie] at hP hD
                refine lv_aload_n hx hb d_M_back_114 rfl (lv_at hl 1 rfl) ?_
                refine r_get C0 hK hP 0 rfl rfl i_M 4 (by decide) wt_667 (fun _ h => h) rfl d_M_back_115 ?_
                exact ret_i C0 hr hlk hAe hS (mk - 1, filN dm 0 (fun i => kd (6 * (mk - 1) + i)) nm, fil rs 0 (fun i => kr (36 * (mk - 1) + i)) (6 * nm), fil rn 0 (fun i => kn (36 * (mk - 1) + i)) (6 * nm)) (by unfold backS; rw [if_neg c_4]) hP hD rfl (Nat.le_of_ble_eq_true rfl) (Nat.le_of_ble_eq_true rfl) d_M_back_118
              · refine lv_aload_n hx hb d_M_back_68 rfl (lv_at hl 1 rfl) ?_
                refine r_get C0 hK hP 0 rfl rfl i_M 2 (by decide) wt_665 (fun _ h => h) rfl d_M_back_69 ?_
                refine lv_iload_n hx hb d_M_back_72 rfl (lv_at hl 0 rfl) ?_
                refine lv_aload_n hx hb d_M_back_73 rfl (lv_at hl 1 rfl) ?_
                refine r_get C0 hK hP 0 rfl rfl i_M 6 (by decide) wt_669 (fun _ h => h) rfl d_M_back_74 ?_
                refine lv_bipush (v := (nI 36)) hx hb d_M_back_77 (by decide) ?_
                refine lv_aload_n hx hb d_M_back_79 rfl (lv_at hl 1 rfl) ?_
                refine r_get C0 hK hP 0 rfl rfl i_M 4 (by decide) wt_667 (fun _ h => h) rfl d_M_back_80 ?_
                refine lv_imul hx hb d_M_back_83 ?_
                refine t_eq (y := (nI (36 * (mk - 1)))) (pk_mul _ _) ?_
                refine lv_iload_n hx hb d_M_back_84 rfl (lv_at hl 0 rfl) ?_
                refine lv_iadd hx hb d_M_back_85 ?_
                refine t_eq (y := (nI ((36 * (mk - 1)) + j2))) (nI_add _ _) ?_
                refine r_ald C0 hK hP 5 rfl (by omega) (by decide) d_M_back_86 ?_
                refine r_ast C0 hK hP hD hS 2 rfl (by omega) (by decide) d_M_back_87 (fun H locs hP hD hS => ?_)
                have hP : va_P D cls [(h, .inr (10, oM ad nm (mk - 1) rd cs)), (ad 1, .inl (cI, 6, .inl (nA (filN dm 0 (fun i => kd (6 * (mk - 1) + i)) nm)))), (ad 2, .inl (cI, 36, .inl (upd (fil rs 0 (fun i => kr (36 * (mk - 1) + i)) j2) j2 (kr ((36 * (mk - 1)) + j2))))), (ad 3, .inl (cI, 36, .inl (fil rn 0 (fun i => kn (36 * (mk - 1) + i)) j2))), (ad 5, .inl (cI, 48, .inl (nA kd))), (ad 6, .inl (cI, 288, .inl kr)), (ad 7, .inl (cI, 288, .inl kn))] H := hP
                have hD : va_D A [(h, .inr (10, oM ad nm (mk - 1) rd cs)), (ad 1, .inl (cI, 6, .inl (nA (filN dm 0 (fun i => kd (6 * (mk - 1) + i)) nm)))), (ad 2, .inl (cI, 36, .inl (upd (fil rs 0 (fun i => kr (36 * (mk - 1) + i)) j2) j2 (kr ((36 * (mk - 1)) + j2))))), (ad 3, .inl (cI, 36, .inl (fil rn 0 (fun i => kn (36 * (mk - 1) + i)) j2))), (ad 5, .inl (cI, 48, .inl (nA kd))), (ad 6, .inl (cI, 288, .inl kr)), (ad 7, .inl (cI, 288, .inl kn))] := hD
                refine lv_aload_n hx hb d_M_back_88 rfl (lv_at hl 1 rfl) ?_
                refine r_get C0 hK hP 0 rfl rfl i_M 3 (by decide) wt_666 (fun _ h => h) rfl d_M_back_89 ?_
                refine lv_iload_n hx hb d_M_back_92 rfl (lv_at hl 0 rfl) ?_
                refine lv_aload_n hx hb d_M_back_93 rfl (lv_at hl 1 rfl) ?_
                refine r_get C0 hK hP 0 rfl rfl i_M 7 (by decide) wt_670 (fun _ h => h) rfl d_M_back_94 ?_
                refine lv_bipush (v := (nI 36)) hx hb d_M_back_97 (by decide) ?_
                refine lv_aload_n hx hb d_M_back_99 rfl (lv_at hl 1 rfl) ?_
                refine r_get C0 hK hP 0 rfl rfl i_M 4 (by decide) wt_667 (fun _ h => h) rfl d_M_back_100 ?_
                refine lv_imul hx hb d_M_back_103 ?_
                refine t_eq (y := (nI (36 * (mk - 1)))) (pk_mul _ _) ?_
                refine lv_iload_n hx hb d_M_back_104 rfl (lv_at hl 0 rfl) ?_
                refine lv_iadd hx hb d_M_back_105 ?_
                refine t_eq (y := (nI ((36 * (mk - 1)) + j2))) (nI_add _ _) ?_
                refine r_ald C0 hK hP 6 rfl (by omega) (by decide) d_M_back_106 ?_
                refine r_ast C0 hK hP hD hS 3 rfl (by omega) (by decide) d_M_back_107 (fun H locs hP hD hS => ?_)
                have hP : va_P D cls [(h, .inr (10, oM ad nm (mk - 1) rd cs)), (ad 1, .inl (cI, 6, .inl (nA (filN dm 0 (fun i => kd (6 * (mk - 1) + i)) nm)))), (ad 2, .inl (cI, 36, .inl (upd (fil rs 0 (fun i => kr (36 * (mk - 1) + i)) j2) j2 (kr ((36 * (mk - 1)) + j2))))), (ad 3, .inl (cI, 36, .inl (upd (fil rn 0 (fun i => kn (36 * (mk - 1) + i)) j2) j2 (kn ((36 * (mk - 1)) + j2))))), (ad 5, .inl (cI, 48, .inl (nA kd))), (ad 6, .inl (cI, 288, .inl kr)), (ad 7, .inl (cI, 288, .inl kn))] H := hP
                have hD : va_D A [(h, .inr (10, oM ad nm (mk - 1) rd cs)), (ad 1, .inl (cI, 6, .inl (nA (filN dm 0 (fun i => kd (6 * (mk - 1) + i)) nm)))), (ad 2, .inl (cI, 36, .inl (upd (fil rs 0 (fun i => kr (36 * (mk - 1) + i)) j2) j2 (kr ((36 * (mk - 1)) + j2))))), (ad 3, .inl (cI, 36, .inl (upd (fil rn 0 (fun i => kn (36 * (mk - 1) + i)) j2) j2 (kn ((36 * (mk - 1)) + j2))))), (ad 5, .inl (cI, 48, .inl (nA kd))), (ad 6, .inl (cI, 288, .inl kr)), (ad 7, .inl (cI, 288, .inl kn))] := hD
                have hz : upd (fil rs 0 (fun i => kr (36 * (mk - 1) + i)) j2) j2 (kr ((36 * (mk - 1)) + j2)) = fil rs 0 (fun i => kr (36 * (mk - 1) + i)) (j2 + 1) := by have q := fil_1 (f := rs) (h := fun i => kr (36 * (mk - 1) + i)) (b := 0) (i := j2) rfl; rw [Nat.zero_add] at q; exact q
                rw [hz] at hP hD
                have hz : upd (fil rn 0 (fun i => kn (36 * (mk - 1) + i)) j2) j2 (kn ((36 * (mk - 1)) + j2)) = fil rn 0 (fun i => kn (36 * (mk - 1) + i)) (j2 + 1) := by have q := fil_1 (f := rn) (h := fun i => kn (36 * (mk - 1) + i)) (b := 0) (i := j2) rfl; rw [Nat.zero_add] at q; exact q
                rw [hz] at hP hD
                refine lv_iinc (v := (nI (j2 + 1))) (lv' := [(1, .int (nI (j2 + 1))), (0, .ref h)]) hx hb d_M_back_108 hl (k := 0) rfl (by exact nI_1 _) (by decide) rfl (fun ls hl => ?_)
                refine lv_goto (tgt := 57) hx hb d_M_back_111 (by decide) ?_
                exact ih57 (j2 + 1) (by omega) (by omega) _ _ _ hP hD hS (lv_sub hl [0, 1] rfl)
          exact L57 (6 * nm + 1) 0 (by omega) (by omega) _ _ _ hP hD hS (lv_sub hl [0, 1] rfl)
        · refine lv_aload_n hx hb d_M_back_29 rfl (lv_at hl 1 rfl) ?_
          refine r_get C0 hK hP 0 rfl rfl i_M 1 (by decide) wt_664 (fun _ h => h) rfl d_M_back_30 ?_
          refine lv_iload_n hx hb d_M_back_33 rfl (lv_at hl 0 rfl) ?_
          refine lv_aload_n hx hb d_M_back_34 rfl (lv_at hl 1 rfl) ?_
          refine r_get C0 hK hP 0 rfl rfl i_M 5 (by decide) wt_668 (fun _ h => h) rfl d_M_back_35 ?_
          refine lv_bipush (v := (nI 6)) hx hb d_M_back_38 (by decide) ?_
          refine lv_aload_n hx hb d_M_back_40 rfl (lv_at hl 1 rfl) ?_
          refine r_get C0 hK hP 0 rfl rfl i_M 4 (by decide) wt_667 (fun _ h => h) rfl d_M_back_41 ?_
          refine lv_imul hx hb d_M_back_44 ?_
          refine t_eq (y := (nI (6 * (mk - 1)))) (pk_mul _ _) ?_
          refine lv_iload_n hx hb d_M_back_45 rfl (lv_at hl 0 rfl) ?_
          refine lv_iadd hx hb d_M_back_46 ?_
          refine t_eq (y := (nI ((6 * (mk - 1)) + j1))) (nI_add _ _) ?_
          refine r_ald C0 hK hP 4 rfl (by omega) (by decide) d_M_back_47 ?_
          refine t_eq (y := (nI (kd ((6 * (mk - 1)) + j1)))) rfl ?_
          refine r_astN C0 hK hP hD hS 1 rfl (by omega) (by decide) d_M_back_48 (fun H locs hP hD hS => ?_)
          have hP : va_P D cls [(h, .inr (10, oM ad nm (mk - 1) rd cs)), (ad 1, .inl (cI, 6, .inl (nA (va_up (filN dm 0 (fun i => kd (6 * (mk - 1) + i)) j1) j1 (kd ((6 * (mk - 1)) + j1)))))), (ad 2, .inl (cI, 36, .inl rs)), (ad 3, .inl (cI, 36, .inl rn)), (ad 5, .inl (cI, 48, .inl (nA kd))), (ad 6, .inl (cI, 288, .inl kr)), (ad 7, .inl (cI, 288, .inl kn))] H := hP
          have hD : va_D A [(h, .inr (10, oM ad nm (mk - 1) rd cs)), (ad 1, .inl (cI, 6, .inl (nA (va_up (filN dm 0 (fun i => kd (6 * (mk - 1) + i)) j1) j1 (kd ((6 * (mk - 1)) + j1)))))), (ad 2, .inl (cI, 36, .inl rs)), (ad 3, .inl (cI, 36, .inl rn)), (ad 5, .inl (cI, 48, .inl (nA kd))), (ad 6, .inl (cI, 288, .inl kr)), (ad 7, .inl (cI, 288, .inl kn))] := hD
          have hz : va_up (filN dm 0 (fun i => kd (6 * (mk - 1) + i)) j1) j1 (kd ((6 * (mk - 1)) + j1)) = filN dm 0 (fun i => kd (6 * (mk - 1) + i)) (j1 + 1) := by have q := filN_1 (f := dm) (h := fun i => kd (6 * (mk - 1) + i)) (b := 0) (i := j1) rfl; rw [Nat.zero_add] at q; exact q
          rw [hz] at hP hD
          refine lv_iinc (v := (nI (j1 + 1))) (lv' := [(1, .int (nI (j1 + 1))), (0, .ref h)]) hx hb d_M_back_49 hl (k := 0) rfl (by exact nI_1 _) (by decide) rfl (fun ls hl => ?_)
          refine lv_goto (tgt := 21) hx hb d_M_back_52 (by decide) ?_
          exact ih21 (j1 + 1) (by omega) (by omega) _ _ _ hP hD hS (lv_sub hl [0, 1] rfl)
    exact L21 (nm + 1) 0 (by omega) (by omega) _ _ _ hP hD hS (lv_sub hl [0, 1] rfl)
  · refine lv_iconst (v := (-1)) hx hb d_M_back_7 (by decide) ?_
    exact ret_i C0 hr hlk hAe hS (mk, dm, rs, rn) (by unfold backS; rw [if_pos c_4]) hP hD rfl (Nat.le_of_ble_eq_true rfl) (Nat.le_of_ble_eq_true rfl) d_M_back_8
def codF (ch : Nat → Nat) : Nat → Nat := orS (fun x => ch x * 2 ^ (3 * x))
set_option maxHeartbeats 4000000 in
set_option maxRecDepth 100000 in
theorem c_M_codeOf (l : Launch) (D : va_G) (cI : ClassId) (sz : Nat) (h : Nat) (ad : Nat → Nat) (nm : Nat) (mk : Nat) (rd : Nat) (cs : Nat) (ch : Nat → Nat) (hnm : nm ≤ 6) : MetI l y_M_codeOf b_M_codeOf 3 (some .int) { frames := 0, cells := 0, slots := 0, locals := 0 } D cI [] sz [(h, .inr (10, oM ad nm mk rd cs)), (ad 27, .inl (cI, 6, .inl (nA ch)))] [.ref h] (fun (r : Int32) (u : Unit) => r = (nI (codF ch nm))) (fun u : Unit => [(h, .inr (10, oM ad nm mk rd cs)), (ad 27, .inl (cI, 6, .inl (nA ch)))]) := by
  refine enter (by decide) (Nat.le_of_ble_eq_true rfl) ?_
  intro p e s m below meth c A ls C0 hr hlk hnm hK hsz hA hAe hP hD hS hl
  have hx := C0.1
  have hb := C0.2.1
  have hl : lv_has ls 3 [(0, .ref h)] := hl
  refine lv_iconst (v := (nI 0)) hx hb d_M_codeOf_0 (by decide) ?_
  refine lv_istore_n (lv' := [(1, .int (nI 0)), (0, .ref h)]) hx hb d_M_codeOf_1 rfl hl (by decide) rfl (fun ls hl => ?_)
  refine lv_iconst (v := (nI 0)) hx hb d_M_codeOf_2 (by decide) ?_
  refine lv_istore_n (lv' := [(2, .int (nI 0)), (1, .int (nI 0)), (0, .ref h)]) hx hb d_M_codeOf_3 rfl hl (by decide) rfl (fun ls hl => ?_)
  have hl : lv_has ls 3 [(2, .int (nI 0)), (1, .int (nI (codF ch 0))), (0, .ref h)] := by rw [show codF ch 0 = 0 from rfl]; exact hl
  have L4 : ∀ (fuel4 : Nat) (i : Nat), (i ≤ nm) → (nm < i + fuel4) → ∀ (H : Heap) (locs : List Loc) (ls : Array Slot), va_P D cls [(h, .inr (10, oM ad nm mk rd cs)), (ad 27, .inl (cI, 6, .inl (nA ch)))] H → va_D A [(h, .inr (10, oM ad nm mk rd cs)), (ad 27, .inl (cI, 6, .inl (nA ch)))] → va_S A s.heap H locs → lv_has ls 3 [(2, .int (nI i)), (1, .int (nI (codF ch i))), (0, .ref h)] → W p l e { frames := 0, cells := 0, slots := 0, locals := 0 } s m ([.ref h] : List Value).toArray below meth c H locs 0 0 (MQ below (pstI D [(h, .inr (10, oM ad nm mk rd cs)), (ad 27, .inl (cI, 6, .inl (nA ch)))] sz (fun (r : Int32) (u : Unit) => r = (nI (codF ch nm))) (fun u : Unit => [(h, .inr (10, oM ad nm mk rd cs)), (ad 27, .inl (cI, 6, .inl (nA ch)))])) ([.ref h] : List Value).toArray s 0 0 A) (F0 m 4 ls []) := by
    intro fuel4
    induction fuel4 with
    | zero => intros; omega
    | succ fuel4 ih4 =>
      intro i hi hfu H locs ls hP hD hS hl
      refine lv_iload_n hx hb d_M_codeOf_4 rfl (lv_at hl 0 rfl) ?_
      refine lv_aload_n hx hb d_M_codeOf_5 rfl (lv_at hl 2 rfl) ?_
      refine r_get C0 hK hP 0 rfl rfl i_M 0 (by decide) wt_663 (fun _ h => h) rfl d_M_codeOf_6 ?_
      refine b_ge (tgt := 31) hx hb (by omega) (by omega) d_M_codeOf_9 (by decide) (fun c_9 => ?_) (fun c_9 => ?_)
      · refine lv_iload_n hx hb d_M_codeOf_31 rfl (lv_at hl 1 rfl) ?_
        exact ret_i C0 hr hlk hAe hS () (by rw [show i = nm by omega]) hP hD rfl (Nat.le_of_ble_eq_true rfl) (Nat.le_of_ble_eq_true rfl) d_M_codeOf_32
      · refine lv_iload_n hx hb d_M_codeOf_12 rfl (lv_at hl 1 rfl) ?_
        refine lv_aload_n hx hb d_M_codeOf_13 rfl (lv_at hl 2 rfl) ?_
        refine r_get C0 hK hP 0 rfl rfl i_M 27 (by decide) wt_690 (fun _ h => h) rfl d_M_codeOf_14 ?_
        refine lv_iload_n hx hb d_M_codeOf_17 rfl (lv_at hl 0 rfl) ?_
        refine r_ald C0 hK hP 1 rfl (by omega) (by decide) d_M_codeOf_18 ?_
        refine t_eq (y := (nI (ch i))) rfl ?_
        refine lv_iconst (v := (nI 3)) hx hb d_M_codeOf_19 (by decide) ?_
        refine lv_iload_n hx hb d_M_codeOf_20 rfl (lv_at hl 0 rfl) ?_
        refine lv_imul hx hb d_M_codeOf_21 ?_
        refine t_eq (y := (nI (3 * i))) (pk_mul _ _) ?_
        refine lv_ishl hx hb d_M_codeOf_22 ?_
        refine t_eq (y := (nI ((ch i) * 2 ^ (3 * i)))) (m_shl _ (by omega)) ?_
        refine lv_ior hx hb d_M_codeOf_23 ?_
        refine t_eq (y := (nI ((codF ch i) ||| ((ch i) * 2 ^ (3 * i))))) (m_or _ _) ?_
        refine t_eq (y := nI (codF ch (i + 1))) rfl ?_
        refine lv_istore_n (lv' := [(1, .int (nI (codF ch (i + 1)))), (2, .int (nI i)), (0, .ref h)]) hx hb d_M_codeOf_24 rfl hl (by decide) rfl (fun ls hl => ?_)
        refine lv_iinc (v := (nI (i + 1))) (lv' := [(2, .int (nI (i + 1))), (1, .int (nI (codF ch (i + 1)))), (0, .ref h)]) hx hb d_M_codeOf_25 hl (k := 1) rfl (by exact nI_1 _) (by decide) rfl (fun ls hl => ?_)
        refine lv_goto (tgt := 4) hx hb d_M_codeOf_28 (by decide) ?_
        exact ih4 (i + 1) (by omega) (by omega) _ _ _ hP hD hS (lv_sub hl [0, 1, 2] rfl)
  exact L4 (nm + 1) 0 (by omega) (by omega) _ _ _ hP hD hS (lv_sub hl [0, 1, 2] rfl)
def allV (dm : Nat → Nat) : Nat → Nat := sm (fun x => sm (fun v => dm x / 2 ^ v % 2) 6)
def ofS (nm cs mk rd : Nat) (al : Nat) (o : Option Nat) : Int32 := match o with
  | none => -2
  | some j => if j = 0 then nI nm else if j = 1 then nI cs else if j = 2 then nI mk else if j = 3 then nI rd else nI al
set_option maxHeartbeats 4000000 in
set_option maxRecDepth 100000 in
theorem c_M_of (l : Launch) (D : va_G) (cI : ClassId) (sz : Nat) (h : Nat) (ad : Nat → Nat) (nm : Nat) (mk : Nat) (rd : Nat) (cs : Nat) (dm : Nat → Nat) (x : Int32) (hnm : nm ≤ 6) (hdm : ∀ j, dm j < 64) : MetI l y_M_of b_M_of 5 (some .int) { frames := 1, cells := 0, slots := 0, locals := 22 } D cI [] sz [(h, .inr (10, oM ad nm mk rd cs)), (ad 1, .inl (cI, 6, .inl (nA dm)))] [.ref h, .int x] (fun (r : Int32) (u : Unit) => r = ofS nm cs mk rd (allV dm nm) (ixN x 5)) (fun u : Unit => [(h, .inr (10, oM ad nm mk rd cs)), (ad 1, .inl (cI, 6, .inl (nA dm)))]) := by
  refine enter (by decide) (Nat.le_of_ble_eq_true rfl) ?_
  intro p e s m below meth c A ls C0 hr hlk hnm hK hsz hA hAe hP hD hS hl
  have hx := C0.1
  have hb := C0.2.1
  have hl : lv_has ls 5 [(0, .ref h), (1, .int x)] := hl
  refine lv_iload_n hx hb d_M_of_0 rfl (lv_at hl 1 rfl) ?_
  refine lv_iconst (v := (nI 0)) hx hb d_M_of_1 (by decide) ?_
  refine lv_iconst (v := (nI 4)) hx hb d_M_of_2 (by decide) ?_
  refine call_i (rm := { frames := 0, cells := 0, slots := 0, locals := 0 }) hS hP hD hA (spl_mk (wc := []) (wr := [(h, .inr (10, oM ad nm mk rd cs)), (ad 1, .inl (cI, 6, .inl (nA dm)))]) [] [0, 1] rfl rfl (by decide)) (run_s (n := 3) (As := [.int x, .int (nI 0), .int (nI 4)]) (rest := []) C0 (hK.sub [] rfl) (c_M_isIn l D cI s.heap.size x (nI 0) (nI 4)) wt_758 wt_4 wt_756 wt_757 (by decide +kernel) ⟨Nat.le_of_ble_eq_true rfl, Nat.le_of_ble_eq_true rfl⟩ rfl hl.1 rfl (Nat.le_of_ble_eq_true rfl) d_M_of_3 ⟨Nat.le_of_ble_eq_true rfl, Nat.le_of_ble_eq_true rfl⟩) (fun r_3 _u3 H locs hw_3 hP hD hS => ?_)
  have hP : va_P D cls [(h, .inr (10, oM ad nm mk rd cs)), (ad 1, .inl (cI, 6, .inl (nA dm)))] H := hP
  have hD : va_D A [(h, .inr (10, oM ad nm mk rd cs)), (ad 1, .inl (cI, 6, .inl (nA dm)))] := hD
  subst hw_3
  refine y_ne (tgt := 12) hx hb d_M_of_6 (by decide) (fun c_6 => ?_) (fun c_6 => ?_)
  · obtain ⟨j, hjj, hxj, hij⟩ := ik_t (by decide) c_6
    have hl : lv_has ls 5 [(0, .ref h), (1, .int (nI j))] := by rw [← hxj]; exact hl
    refine lv_iload_n hx hb d_M_of_12 rfl (lv_at hl 1 rfl) ?_
    refine lv_iconst (v := (nI 4)) hx hb d_M_of_13 (by decide) ?_
    refine b_ge (tgt := 57) hx hb (by omega) (by decide) d_M_of_14 (by decide) (fun c_14 => ?_) (fun c_14 => ?_)
    · refine lv_iconst (v := (nI 0)) hx hb d_M_of_57 (by decide) ?_
      refine lv_istore_n (lv' := [(2, .int (nI 0)), (0, .ref h), (1, .int (nI j))]) hx hb d_M_of_58 rfl hl (by decide) rfl (fun ls hl => ?_)
      refine lv_iconst (v := (nI 0)) hx hb d_M_of_59 (by decide) ?_
      refine lv_istore_n (lv' := [(3, .int (nI 0)), (2, .int (nI 0)), (0, .ref h), (1, .int (nI j))]) hx hb d_M_of_60 rfl hl (by decide) rfl (fun ls hl => ?_)
      have hl : lv_has ls 5 [(3, .int (nI 0)), (2, .int (nI (allV dm 0))), (0, .ref h), (1, .int (nI j))] := by rw [show allV dm 0 = 0 from rfl]; exact hl
      have L61 : ∀ (fuel61 : Nat) (k : Nat), (k ≤ nm) → (nm < k + fuel61) → ∀ (H : Heap) (locs : List Loc) (ls : Array Slot), va_P D cls [(h, .inr (10, oM ad nm mk rd cs)), (ad 1, .inl (cI, 6, .inl (nA dm)))] H → va_D A [(h, .inr (10, oM ad nm mk rd cs)), (ad 1, .inl (cI, 6, .inl (nA dm)))] → va_S A s.heap H locs → lv_has ls 5 [(3, .int (nI k)), (2, .int (nI (allV dm k))), (0, .ref h), (1, .int (nI j))] → W p l e { frames := 1, cells := 0, slots := 0, locals := 22 } s m ([.ref h, .int x] : List Value).toArray below meth c H locs 0 0 (MQ below (pstI D [(h, .inr (10, oM ad nm mk rd cs)), (ad 1, .inl (cI, 6, .inl (nA dm)))] sz (fun (r : Int32) (u : Unit) => r = ofS nm cs mk rd (allV dm nm) (ixN x 5)) (fun u : Unit => [(h, .inr (10, oM ad nm mk rd cs)), (ad 1, .inl (cI, 6, .inl (nA dm)))])) ([.ref h, .int x] : List Value).toArray s 0 0 A) (F0 m 61 ls []) := by
        intro fuel61
        induction fuel61 with
        | zero => intros; omega
        | succ fuel61 ih61 =>
          intro k hk hfu H locs ls hP hD hS hl
          refine lv_iload_n hx hb d_M_of_61 rfl (lv_at hl 0 rfl) ?_
          refine lv_aload_n hx hb d_M_of_62 rfl (lv_at hl 2 rfl) ?_
          refine r_get C0 hK hP 0 rfl rfl i_M 0 (by decide) wt_663 (fun _ h => h) rfl d_M_of_63 ?_
          refine b_ge (tgt := 105) hx hb (by omega) (by omega) d_M_of_66 (by decide) (fun c_66 => ?_) (fun c_66 => ?_)
          · refine lv_iload_n hx hb d_M_of_105 rfl (lv_at hl 1 rfl) ?_
            exact ret_i C0 hr hlk hAe hS () (by rw [hij]; show _ = (if _ then _ else (if _ then _ else (if _ then _ else (if _ then _ else _)))); rw [if_neg (by omega), if_neg (by omega), if_neg (by omega), if_neg (by omega), show k = nm by omega]) hP hD rfl (Nat.le_of_ble_eq_true rfl) (Nat.le_of_ble_eq_true rfl) d_M_of_106
          · refine lv_iconst (v := (nI 0)) hx hb d_M_of_69 (by decide) ?_
            refine lv_istore (lv' := [(4, .int (nI 0)), (3, .int (nI k)), (2, .int (nI (allV dm k))), (0, .ref h), (1, .int (nI j))]) hx hb d_M_of_70 hl (by decide) rfl (fun ls hl => ?_)
            have hl : lv_has ls 5 [(4, .int (nI 0)), (3, .int (nI k)), (2, .int (nI (allV dm k + sm (fun v => dm k / 2 ^ v % 2) 0))), (0, .ref h), (1, .int (nI j))] := by rw [show allV dm k + sm (fun v => dm k / 2 ^ v % 2) 0 = allV dm k from rfl]; exact hl
            have L72 : ∀ (fuel72 : Nat) (i : Nat), (i ≤ 6) → (6 < i + fuel72) → ∀ (H : Heap) (locs : List Loc) (ls : Array Slot), va_P D cls [(h, .inr (10, oM ad nm mk rd cs)), (ad 1, .inl (cI, 6, .inl (nA dm)))] H → va_D A [(h, .inr (10, oM ad nm mk rd cs)), (ad 1, .inl (cI, 6, .inl (nA dm)))] → va_S A s.heap H locs → lv_has ls 5 [(4, .int (nI i)), (3, .int (nI k)), (2, .int (nI (allV dm k + sm (fun v => dm k / 2 ^ v % 2) i))), (0, .ref h), (1, .int (nI j))] → W p l e { frames := 1, cells := 0, slots := 0, locals := 22 } s m ([.ref h, .int x] : List Value).toArray below meth c H locs 0 0 (MQ below (pstI D [(h, .inr (10, oM ad nm mk rd cs)), (ad 1, .inl (cI, 6, .inl (nA dm)))] sz (fun (r : Int32) (u : Unit) => r = ofS nm cs mk rd (allV dm nm) (ixN x 5)) (fun u : Unit => [(h, .inr (10, oM ad nm mk rd cs)), (ad 1, .inl (cI, 6, .inl (nA dm)))])) ([.ref h, .int x] : List Value).toArray s 0 0 A) (F0 m 72 ls []) := by
              intro fuel72
              induction fuel72 with
              | zero => intros; omega
              | succ fuel72 ih72 =>
                intro i hi hfu2 H locs ls hP hD hS hl
                have hdk := hdm k
                refine lv_iload hx hb d_M_of_72 (lv_at hl 0 rfl) ?_
                refine lv_bipush (v := (nI 6)) hx hb d_M_of_74 (by decide) ?_
                refine b_ge (tgt := 99) hx hb (by omega) (by decide) d_M_of_76 (by decide) (fun c_76 => ?_) (fun c_76 => ?_)
                · obtain rfl : i = 6 := (by omega)
                  have hl : lv_has ls 5 [(4, .int (nI 6)), (3, .int (nI k)), (2, .int (nI (allV dm (k + 1)))), (0, .ref h), (1, .int (nI j))] := by rw [show allV dm (k + 1) = allV dm k + sm (fun v => dm k / 2 ^ v % 2) 6 from rfl]; exact hl
                  refine lv_iinc (v := (nI (k + 1))) (lv' := [(3, .int (nI (k + 1))), (4, .int (nI 6)), (2, .int (nI (allV dm (k + 1)))), (0, .ref h), (1, .int (nI j))]) hx hb d_M_of_99 hl (k := 1) rfl (by exact nI_1 _) (by decide) rfl (fun ls hl => ?_)
                  refine lv_goto (tgt := 61) hx hb d_M_of_102 (by decide) ?_
                  exact ih61 (k + 1) (by omega) (by omega) _ _ _ hP hD hS (lv_sub hl [0, 2, 3, 4] rfl)
                · refine lv_iload_n hx hb d_M_of_79 rfl (lv_at hl 2 rfl) ?_
                  refine lv_aload_n hx hb d_M_of_80 rfl (lv_at hl 3 rfl) ?_
                  refine r_get C0 hK hP 0 rfl rfl i_M 1 (by decide) wt_664 (fun _ h => h) rfl d_M_of_81 ?_
                  refine lv_iload_n hx hb d_M_of_84 rfl (lv_at hl 1 rfl) ?_
                  refine r_ald C0 hK hP 1 rfl (by omega) (by decide) d_M_of_85 ?_
                  refine t_eq (y := (nI (dm k))) rfl ?_
                  refine lv_iload hx hb d_M_of_86 (lv_at hl 0 rfl) ?_
                  refine lv_ishr hx hb d_M_of_88 ?_
                  refine t_eq (y := (nI ((dm k) / 2 ^ i))) (m_shr (by omega) (by omega)) ?_
                  refine lv_iconst (v := (nI 1)) hx hb d_M_of_89 (by decide) ?_
                  refine lv_iand hx hb d_M_of_90 ?_
                  refine t_eq (y := (nI (((dm k) / 2 ^ i) % 2))) (m_and1 _) ?_
                  refine lv_iadd hx hb d_M_of_91 ?_
                  refine t_eq (y := (nI ((allV dm k + sm (fun v => dm k / 2 ^ v % 2) i) + (((dm k) / 2 ^ i) % 2)))) (nI_add _ _) ?_
                  refine t_eq (y := nI (allV dm k + sm (fun v => dm k / 2 ^ v % 2) (i + 1))) (by rw [Nat.add_assoc]; rfl) ?_
                  refine lv_istore_n (lv' := [(2, .int (nI (allV dm k + sm (fun v => dm k / 2 ^ v % 2) (i + 1)))), (4, .int (nI i)), (3, .int (nI k)), (0, .ref h), (1, .int (nI j))]) hx hb d_M_of_92 rfl hl (by decide) rfl (fun ls hl => ?_)
                  refine lv_iinc (v := (nI (i + 1))) (lv' := [(4, .int (nI (i + 1))), (2, .int (nI (allV dm k + sm (fun v => dm k / 2 ^ v % 2) (i + 1)))), (3, .int (nI k)), (0, .ref h), (1, .int (nI j))]) hx hb d_M_of_93 hl (k := 1) rfl (by exact nI_1 _) (by decide) rfl (fun ls hl => ?_)
                  refine lv_goto (tgt := 72) hx hb d_M_of_96 (by decide) ?_
                  exact ih72 (i + 1) (by omega) (by omega) _ _ _ hP hD hS (lv_sub hl [0, 2, 1, 3, 4] rfl)
            exact L72 (7) 0 (by omega) (by omega) _ _ _ hP hD hS (lv_sub hl [0, 1, 2, 3, 4] rfl)
      exact L61 (nm + 1) 0 (by omega) (by omega) _ _ _ hP hD hS (lv_sub hl [0, 1, 2, 3] rfl)
    · refine lv_iload_n hx hb d_M_of_17 rfl (lv_at hl 1 rfl) ?_
      refine z_ne (tgt := 28) hx hb (by omega) d_M_of_18 (by decide) (fun c_18 => ?_) (fun c_18 => ?_)
      · refine lv_iload_n hx hb d_M_of_28 rfl (lv_at hl 1 rfl) ?_
        refine lv_iconst (v := (nI 1)) hx hb d_M_of_29 (by decide) ?_
        refine b_ne (tgt := 40) hx hb (by omega) (by decide) d_M_of_30 (by decide) (fun c_30 => ?_) (fun c_30 => ?_)
        · refine lv_iload_n hx hb d_M_of_40 rfl (lv_at hl 1 rfl) ?_
          refine lv_iconst (v := (nI 2)) hx hb d_M_of_41 (by decide) ?_
          refine b_ne (tgt := 52) hx hb (by omega) (by decide) d_M_of_42 (by decide) (fun c_42 => ?_) (fun c_42 => ?_)
          · refine lv_aload_n hx hb d_M_of_52 rfl (lv_at hl 0 rfl) ?_
            refine r_get C0 hK hP 0 rfl rfl i_M 8 (by decide) wt_671 (fun _ h => h) rfl d_M_of_53 ?_
            exact ret_i C0 hr hlk hAe hS () (by rw [hij]; show _ = (if _ then _ else (if _ then _ else (if _ then _ else (if _ then _ else _)))); first | (rw [if_neg c_18, if_neg c_30, if_neg c_42, if_pos (by omega)]; done) | (rw [if_neg c_18, if_neg c_30, if_pos c_42]; done) | (rw [if_neg c_18, if_pos c_30]; done) | (rw [if_pos c_18]; done)) hP hD rfl (Nat.le_of_ble_eq_true rfl) (Nat.le_of_ble_eq_true rfl) d_M_of_56
          · refine lv_aload_n hx hb d_M_of_45 rfl (lv_at hl 0 rfl) ?_
            refine r_get C0 hK hP 0 rfl rfl i_M 4 (by decide) wt_667 (fun _ h => h) rfl d_M_of_46 ?_
            refine lv_goto (tgt := 56) hx hb d_M_of_49 (by decide) ?_
            exact ret_i C0 hr hlk hAe hS () (by rw [hij]; show _ = (if _ then _ else (if _ then _ else (if _ then _ else (if _ then _ else _)))); first | (rw [if_neg c_18, if_neg c_30, if_neg c_42, if_pos (by omega)]; done) | (rw [if_neg c_18, if_neg c_30, if_pos c_42]; done) | (rw [if_neg c_18, if_pos c_30]; done) | (rw [if_pos c_18]; done)) hP hD rfl (Nat.le_of_ble_eq_true rfl) (Nat.le_of_ble_eq_true rfl) d_M_of_56
        · refine lv_aload_n hx hb d_M_of_33 rfl (lv_at hl 0 rfl) ?_
          refine r_get C0 hK hP 0 rfl rfl i_M 9 (by decide) wt_672 (fun _ h => h) rfl d_M_of_34 ?_
          refine lv_goto (tgt := 56) hx hb d_M_of_37 (by decide) ?_
          exact ret_i C0 hr hlk hAe hS () (by rw [hij]; show _ = (if _ then _ else (if _ then _ else (if _ then _ else (if _ then _ else _)))); first | (rw [if_neg c_18, if_neg c_30, if_neg c_42, if_pos (by omega)]; done) | (rw [if_neg c_18, if_neg c_30, if_pos c_42]; done) | (rw [if_neg c_18, if_pos c_30]; done) | (rw [if_pos c_18]; done)) hP hD rfl (Nat.le_of_ble_eq_true rfl) (Nat.le_of_ble_eq_true rfl) d_M_of_56
      · refine lv_aload_n hx hb d_M_of_21 rfl (lv_at hl 0 rfl) ?_
        refine r_get C0 hK hP 0 rfl rfl i_M 0 (by decide) wt_663 (fun _ h => h) rfl d_M_of_22 ?_
        refine lv_goto (tgt := 56) hx hb d_M_of_25 (by decide) ?_
        exact ret_i C0 hr hlk hAe hS () (by rw [hij]; show _ = (if _ then _ else (if _ then _ else (if _ then _ else (if _ then _ else _)))); first | (rw [if_neg c_18, if_neg c_30, if_neg c_42, if_pos (by omega)]; done) | (rw [if_neg c_18, if_neg c_30, if_pos c_42]; done) | (rw [if_neg c_18, if_pos c_30]; done) | (rw [if_pos c_18]; done)) hP hD rfl (Nat.le_of_ble_eq_true rfl) (Nat.le_of_ble_eq_true rfl) d_M_of_56
  · have hij := ik_f (by decide) c_6
    refine lv_bipush (v := (-2)) hx hb d_M_of_9 (by decide) ?_
    exact ret_i C0 hr hlk hAe hS () (by rw [hij]; rfl) hP hD rfl (Nat.le_of_ble_eq_true rfl) (Nat.le_of_ble_eq_true rfl) d_M_of_11
