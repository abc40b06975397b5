set_option maxHeartbeats 4000000 in
set_option maxRecDepth 100000 in
theorem tw_0 (l : Launch) (D : va_G) (cI : ClassId) (sz : Nat) (h : Nat) (kd : Nat) (n : Nat) (w : Nat) (ns : Nat) (hn : Nat) (hq : Nat) (ft : Nat) (tu : Nat) (hp : Nat) (po : Nat) (pk : Nat) (pa : Nat) (pb : Nat) (pw : Nat) (ps : Nat) (tm : Nat) (fi : Nat → Nat) (op : Nat → Nat) (k : Nat) (t : Nat) (hn6 : n ≤ 6) (htu : tu ≤ 20) (hfi : ∀ j, fi j < 1048576) (hop : ∀ j, op j < 64) (hkd : k + 0 = n) (ht : t < 1048576) : MetI l y_Ta_wordsFrom b_Ta_wordsFrom 6 (some .int) { frames := 2 + 0, cells := 0, slots := 0, locals := 60 + 60 * 0 } D cI [] sz [(h, .inr (3, [.int (nI kd), .int (nI n), .int (nI w), .int (nI ns), .int (nI hn), .int (nI hq), .ref ft, .int (nI tu)])), (ft, .inl (cI, 36, .inl (nA fi))), (hp, .inr (2, [.ref po, .ref pk, .ref pa, .ref pb, .ref pw, .ref ps, .int (nI tm)])), (po, .inl (cI, 6, .inl (nA op)))] [.ref h, .int (nI k), .int (nI t), .ref hp] (fun (r : Int32) (u : Unit) => r = nI (twc fi op 0 k t)) (fun u : Unit => [(h, .inr (3, [.int (nI kd), .int (nI n), .int (nI w), .int (nI ns), .int (nI hn), .int (nI hq), .ref ft, .int (nI tu)])), (ft, .inl (cI, 36, .inl (nA fi))), (hp, .inr (2, [.ref po, .ref pk, .ref pa, .ref pb, .ref pw, .ref ps, .int (nI tm)])), (po, .inl (cI, 6, .inl (nA op)))]) := by
  refine enter (by decide) (Nat.le_of_ble_eq_true rfl) ?_
  intro p e s m below meth c A ls C0 hr hlk hnm hK hsz hA hAe hP hD hS hl
  have hx := C0.1
  have hb := C0.2.1
  have hl : lv_has ls 6 [(0, .ref h), (1, .int (nI k)), (2, .int (nI t)), (3, .ref hp)] := hl
  refine lv_iload_n hx hb d_Ta_wordsFrom_0 rfl (lv_at hl 2 rfl) ?_
  refine z_ne (tgt := 6) hx hb (by omega) d_Ta_wordsFrom_1 (by decide) (fun c_1 => ?_) (fun c_1 => ?_)
  · refine lv_iload_n hx hb d_Ta_wordsFrom_6 rfl (lv_at hl 1 rfl) ?_
    refine z_lt (tgt := 24) hx hb (by omega) d_Ta_wordsFrom_7 (by decide) ?_
    refine lv_iload_n hx hb d_Ta_wordsFrom_10 rfl (lv_at hl 1 rfl) ?_
    refine lv_aload_n hx hb d_Ta_wordsFrom_11 rfl (lv_at hl 0 rfl) ?_
    refine r_get C0 hK hP 0 rfl rfl i_Ta 1 (by decide) wt_171 (fun x h => u_same (C0.2.2.2.2 _ wt_172) x h) rfl d_Ta_wordsFrom_12 ?_
    refine b_ge (tgt := 24) hx hb (by omega) (by omega) d_Ta_wordsFrom_15 (by decide) (fun c_15 => ?_) (fun c_15 => ?_)
    · refine lv_iconst (v := (nI 1)) hx hb d_Ta_wordsFrom_24 (by decide) ?_
      exact ret_i C0 hr hlk hAe hS () (by show _ = nI (if _ then _ else _); rw [if_neg c_1]) hP hD rfl (Nat.le_of_ble_eq_true rfl) (Nat.le_of_ble_eq_true rfl) d_Ta_wordsFrom_25
    · exact absurd c_15 (by omega)
  · refine lv_iconst (v := (nI 0)) hx hb d_Ta_wordsFrom_4 (by decide) ?_
    exact ret_i C0 hr hlk hAe hS () (by rw [c_1]; rfl) hP hD rfl (Nat.le_of_ble_eq_true rfl) (Nat.le_of_ble_eq_true rfl) d_Ta_wordsFrom_5
set_option maxHeartbeats 4000000 in
set_option maxRecDepth 100000 in
theorem tw_s (l : Launch) (D : va_G) (cI : ClassId) (sz : Nat) (d : Nat) (h : Nat) (kd : Nat) (n : Nat) (w : Nat) (ns : Nat) (hn : Nat) (hq : Nat) (ft : Nat) (tu : Nat) (hp : Nat) (po : Nat) (pk : Nat) (pa : Nat) (pb : Nat) (pw : Nat) (ps : Nat) (tm : Nat) (fi : Nat → Nat) (op : Nat → Nat) (k : Nat) (t : Nat) (ihr : ∀ (sz : Nat) (h : Nat) (kd : Nat) (n : Nat) (w : Nat) (ns : Nat) (hn : Nat) (hq : Nat) (ft : Nat) (tu : Nat) (hp : Nat) (po : Nat) (pk : Nat) (pa : Nat) (pb : Nat) (pw : Nat) (ps : Nat) (tm : Nat) (fi : Nat → Nat) (op : Nat → Nat) (k : Nat) (t : Nat) (hn6 : n ≤ 6) (htu : tu ≤ 20) (hfi : ∀ j, fi j < 1048576) (hop : ∀ j, op j < 64) (hkd : k + d = n) (ht : t < 1048576), MetI l y_Ta_wordsFrom b_Ta_wordsFrom 6 (some .int) { frames := 2 + d, cells := 0, slots := 0, locals := 60 + 60 * d } D cI [] sz [(h, .inr (3, [.int (nI kd), .int (nI n), .int (nI w), .int (nI ns), .int (nI hn), .int (nI hq), .ref ft, .int (nI tu)])), (ft, .inl (cI, 36, .inl (nA fi))), (hp, .inr (2, [.ref po, .ref pk, .ref pa, .ref pb, .ref pw, .ref ps, .int (nI tm)])), (po, .inl (cI, 6, .inl (nA op)))] [.ref h, .int (nI k), .int (nI t), .ref hp] (fun (r : Int32) (u : Unit) => r = nI (twc fi op d k t)) (fun u : Unit => [(h, .inr (3, [.int (nI kd), .int (nI n), .int (nI w), .int (nI ns), .int (nI hn), .int (nI hq), .ref ft, .int (nI tu)])), (ft, .inl (cI, 36, .inl (nA fi))), (hp, .inr (2, [.ref po, .ref pk, .ref pa, .ref pb, .ref pw, .ref ps, .int (nI tm)])), (po, .inl (cI, 6, .inl (nA op)))])) (hn6 : n ≤ 6) (htu : tu ≤ 20) (hfi : ∀ j, fi j < 1048576) (hop : ∀ j, op j < 64) (hkd : k + (d + 1) = n) (ht : t < 1048576) : MetI l y_Ta_wordsFrom b_Ta_wordsFrom 6 (some .int) { frames := 2 + (d + 1), cells := 0, slots := 0, locals := 60 + 60 * (d + 1) } D cI [] sz [(h, .inr (3, [.int (nI kd), .int (nI n), .int (nI w), .int (nI ns), .int (nI hn), .int (nI hq), .ref ft, .int (nI tu)])), (ft, .inl (cI, 36, .inl (nA fi))), (hp, .inr (2, [.ref po, .ref pk, .ref pa, .ref pb, .ref pw, .ref ps, .int (nI tm)])), (po, .inl (cI, 6, .inl (nA op)))] [.ref h, .int (nI k), .int (nI t), .ref hp] (fun (r : Int32) (u : Unit) => r = nI (twc fi op (d + 1) k t)) (fun u : Unit => [(h, .inr (3, [.int (nI kd), .int (nI n), .int (nI w), .int (nI ns), .int (nI hn), .int (nI hq), .ref ft, .int (nI tu)])), (ft, .inl (cI, 36, .inl (nA fi))), (hp, .inr (2, [.ref po, .ref pk, .ref pa, .ref pb, .ref pw, .ref ps, .int (nI tm)])), (po, .inl (cI, 6, .inl (nA op)))]) := by
  refine enter (by decide) (Nat.le_of_ble_eq_true rfl) ?_
  intro p e s m below meth c A ls C0 hr hlk hnm hK hsz hA hAe hP hD hS hl
  have hx := C0.1
  have hb := C0.2.1
  have hl : lv_has ls 6 [(0, .ref h), (1, .int (nI k)), (2, .int (nI t)), (3, .ref hp)] := hl
  refine lv_iload_n hx hb d_Ta_wordsFrom_0 rfl (lv_at hl 2 rfl) ?_
  refine z_ne (tgt := 6) hx hb (by omega) d_Ta_wordsFrom_1 (by decide) (fun c_1 => ?_) (fun c_1 => ?_)
  · refine lv_iload_n hx hb d_Ta_wordsFrom_6 rfl (lv_at hl 1 rfl) ?_
    refine z_lt (tgt := 24) hx hb (by omega) d_Ta_wordsFrom_7 (by decide) ?_
    refine lv_iload_n hx hb d_Ta_wordsFrom_10 rfl (lv_at hl 1 rfl) ?_
    refine lv_aload_n hx hb d_Ta_wordsFrom_11 rfl (lv_at hl 0 rfl) ?_
    refine r_get C0 hK hP 0 rfl rfl i_Ta 1 (by decide) wt_171 (fun x h => u_same (C0.2.2.2.2 _ wt_172) x h) rfl d_Ta_wordsFrom_12 ?_
    refine b_ge (tgt := 24) hx hb (by omega) (by omega) d_Ta_wordsFrom_15 (by decide) (fun c_15 => ?_) (fun c_15 => ?_)
    · exact absurd c_15 (by omega)
    · refine lv_iload_n hx hb d_Ta_wordsFrom_18 rfl (lv_at hl 1 rfl) ?_
      refine lv_bipush (v := (nI 6)) hx hb d_Ta_wordsFrom_19 (by decide) ?_
      refine b_lt (tgt := 26) hx hb (by omega) (by decide) d_Ta_wordsFrom_21 (by decide) (fun c_21 => ?_) (fun c_21 => ?_)
      · refine lv_iconst (v := (nI 0)) hx hb d_Ta_wordsFrom_26 (by decide) ?_
        refine lv_istore (lv' := [(4, .int (nI 0)), (0, .ref h), (1, .int (nI k)), (2, .int (nI t)), (3, .ref hp)]) hx hb d_Ta_wordsFrom_27 hl (by decide) rfl (fun ls hl => ?_)
        refine lv_iconst (v := (nI 0)) hx hb d_Ta_wordsFrom_29 (by decide) ?_
        refine lv_istore (lv' := [(5, .int (nI 0)), (4, .int (nI 0)), (0, .ref h), (1, .int (nI k)), (2, .int (nI t)), (3, .ref hp)]) hx hb d_Ta_wordsFrom_30 hl (by decide) rfl (fun ls hl => ?_)
        have hl : lv_has ls 6 [(5, .int (nI 0)), (4, .int (nI (sm (tcV fi op d k t) 0))), (0, .ref h), (1, .int (nI k)), (2, .int (nI t)), (3, .ref hp)] := by rw [show sm (tcV fi op d k t) 0 = 0 from rfl]; exact hl
        have L32 : ∀ (fuel32 : Nat) (i : Nat), (i ≤ 6) → (6 < i + fuel32) → ∀ (H : Heap) (locs : List Loc) (ls : Array Slot), va_P D cls [(h, .inr (3, [.int (nI kd), .int (nI n), .int (nI w), .int (nI ns), .int (nI hn), .int (nI hq), .ref ft, .int (nI tu)])), (ft, .inl (cI, 36, .inl (nA fi))), (hp, .inr (2, [.ref po, .ref pk, .ref pa, .ref pb, .ref pw, .ref ps, .int (nI tm)])), (po, .inl (cI, 6, .inl (nA op)))] H → va_D A [(h, .inr (3, [.int (nI kd), .int (nI n), .int (nI w), .int (nI ns), .int (nI hn), .int (nI hq), .ref ft, .int (nI tu)])), (ft, .inl (cI, 36, .inl (nA fi))), (hp, .inr (2, [.ref po, .ref pk, .ref pa, .ref pb, .ref pw, .ref ps, .int (nI tm)])), (po, .inl (cI, 6, .inl (nA op)))] → va_S A s.heap H locs → lv_has ls 6 [(5, .int (nI i)), (4, .int (nI (sm (tcV fi op d k t) i))), (0, .ref h), (1, .int (nI k)), (2, .int (nI t)), (3, .ref hp)] → W p l e { frames := 2 + (d + 1), cells := 0, slots := 0, locals := 60 + 60 * (d + 1) } s m ([.ref h, .int (nI k), .int (nI t), .ref hp] : List Value).toArray below meth c H locs 0 0 (MQ below (pstI D [(h, .inr (3, [.int (nI kd), .int (nI n), .int (nI w), .int (nI ns), .int (nI hn), .int (nI hq), .ref ft, .int (nI tu)])), (ft, .inl (cI, 36, .inl (nA fi))), (hp, .inr (2, [.ref po, .ref pk, .ref pa, .ref pb, .ref pw, .ref ps, .int (nI tm)])), (po, .inl (cI, 6, .inl (nA op)))] sz (fun (r : Int32) (u : Unit) => r = nI (twc fi op (d + 1) k t)) (fun u : Unit => [(h, .inr (3, [.int (nI kd), .int (nI n), .int (nI w), .int (nI ns), .int (nI hn), .int (nI hq), .ref ft, .int (nI tu)])), (ft, .inl (cI, 36, .inl (nA fi))), (hp, .inr (2, [.ref po, .ref pk, .ref pa, .ref pb, .ref pw, .ref ps, .int (nI tm)])), (po, .inl (cI, 6, .inl (nA op)))])) ([.ref h, .int (nI k), .int (nI t), .ref hp] : List Value).toArray s 0 0 A) (F0 m 32 ls []) := by
          intro fuel32
          induction fuel32 with
          | zero => intros; omega
          | succ fuel32 ih32 =>
            intro i hi hfu H locs ls hP hD hS hl
            refine lv_iload hx hb d_Ta_wordsFrom_32 (lv_at hl 0 rfl) ?_
            refine lv_bipush (v := (nI 6)) hx hb d_Ta_wordsFrom_34 (by decide) ?_
            refine b_ge (tgt := 86) hx hb (by omega) (by decide) d_Ta_wordsFrom_36 (by decide) (fun c_36 => ?_) (fun c_36 => ?_)
            · obtain rfl : i = 6 := (by omega)
              refine lv_iload hx hb d_Ta_wordsFrom_86 (lv_at hl 1 rfl) ?_
              exact ret_i C0 hr hlk hAe hS () (by rw [twc_s c_1]) hP hD rfl (Nat.le_of_ble_eq_true rfl) (Nat.le_of_ble_eq_true rfl) d_Ta_wordsFrom_88
            · refine lv_aload_n hx hb d_Ta_wordsFrom_39 rfl (lv_at hl 5 rfl) ?_
              refine r_get C0 hK hP 2 rfl rfl i_Pl 0 (by decide) wt_56 (fun _ h => h) rfl d_Ta_wordsFrom_40 ?_
              refine lv_iload_n hx hb d_Ta_wordsFrom_43 rfl (lv_at hl 3 rfl) ?_
              refine r_ald C0 hK hP 3 rfl (by omega) (by decide) d_Ta_wordsFrom_44 ?_
              refine t_eq (y := (nI (op k))) rfl ?_
              refine lv_iload hx hb d_Ta_wordsFrom_45 (lv_at hl 0 rfl) ?_
              refine call_i (rm := { frames := 0, cells := 0, slots := 0, locals := 0 }) hS hP hD hA (spl_mk (wc := []) (wr := [(h, .inr (3, [.int (nI kd), .int (nI n), .int (nI w), .int (nI ns), .int (nI hn), .int (nI hq), .ref ft, .int (nI tu)])), (ft, .inl (cI, 36, .inl (nA fi))), (hp, .inr (2, [.ref po, .ref pk, .ref pa, .ref pb, .ref pw, .ref ps, .int (nI tm)])), (po, .inl (cI, 6, .inl (nA op)))]) [] [0, 1, 2, 3] rfl rfl (by decide)) (run_sN (n := 2) (As := [.int (nI (op k)), .int (nI i)]) (rest := []) C0 (hK.sub [] rfl) (c_TC_has l D cI H.size (op k) i (Nat.lt_trans (hop _) (by decide)) (by omega)) wt_147 wt_1 wn_526 wt_146 (by decide +kernel) ⟨by simp only []; omega, by simp only []; omega⟩ rfl hl.1 rfl (Nat.le_of_ble_eq_true rfl) d_Ta_wordsFrom_47 ⟨Nat.le_refl _, Nat.le_refl _⟩) (fun r_47 _u47 H locs hw_47 hP hD hS => ?_)
              have hP : va_P D cls [(h, .inr (3, [.int (nI kd), .int (nI n), .int (nI w), .int (nI ns), .int (nI hn), .int (nI hq), .ref ft, .int (nI tu)])), (ft, .inl (cI, 36, .inl (nA fi))), (hp, .inr (2, [.ref po, .ref pk, .ref pa, .ref pb, .ref pw, .ref ps, .int (nI tm)])), (po, .inl (cI, 6, .inl (nA op)))] H := hP
              have hD : va_D A [(h, .inr (3, [.int (nI kd), .int (nI n), .int (nI w), .int (nI ns), .int (nI hn), .int (nI hq), .ref ft, .int (nI tu)])), (ft, .inl (cI, 36, .inl (nA fi))), (hp, .inr (2, [.ref po, .ref pk, .ref pa, .ref pb, .ref pw, .ref ps, .int (nI tm)])), (po, .inl (cI, 6, .inl (nA op)))] := hD
              subst hw_47
              refine y_eq (tgt := 80) hx hb d_Ta_wordsFrom_50 (by decide) (fun c_50 => ?_) (fun c_50 => ?_)
              · have hl : lv_has ls 6 [(5, .int (nI i)), (4, .int (nI (sm (tcV fi op d k t) (i + 1)))), (0, .ref h), (1, .int (nI k)), (2, .int (nI t)), (3, .ref hp)] := by rw [show sm (tcV fi op d k t) (i + 1) = sm (tcV fi op d k t) i from (tcV_f c_50)]; exact hl
                refine lv_iinc (v := (nI (i + 1))) (lv' := [(5, .int (nI (i + 1))), (4, .int (nI (sm (tcV fi op d k t) (i + 1)))), (0, .ref h), (1, .int (nI k)), (2, .int (nI t)), (3, .ref hp)]) hx hb d_Ta_wordsFrom_80 hl (k := 0) rfl (by exact nI_1 _) (by decide) rfl (fun ls hl => ?_)
                refine lv_goto (tgt := 32) hx hb d_Ta_wordsFrom_83 (by decide) ?_
                exact ih32 (i + 1) (by omega) (by omega) _ _ _ hP hD hS (lv_sub hl [0, 1, 2, 3, 4, 5] rfl)
              · refine lv_iload hx hb d_Ta_wordsFrom_53 (lv_at hl 1 rfl) ?_
                refine lv_aload_n hx hb d_Ta_wordsFrom_55 rfl (lv_at hl 2 rfl) ?_
                refine lv_iload_n hx hb d_Ta_wordsFrom_56 rfl (lv_at hl 3 rfl) ?_
                refine lv_iconst (v := (nI 1)) hx hb d_Ta_wordsFrom_57 (by decide) ?_
                refine lv_iadd hx hb d_Ta_wordsFrom_58 ?_
                refine t_eq (y := (nI (k + 1))) (nI_add _ _) ?_
                refine lv_iload_n hx hb d_Ta_wordsFrom_59 rfl (lv_at hl 4 rfl) ?_
                refine lv_aload_n hx hb d_Ta_wordsFrom_60 rfl (lv_at hl 2 rfl) ?_
                refine r_get C0 hK hP 0 rfl rfl i_Ta 6 (by decide) wt_162 (fun _ h => h) rfl d_Ta_wordsFrom_61 ?_
                refine lv_iload_n hx hb d_Ta_wordsFrom_64 rfl (lv_at hl 3 rfl) ?_
                refine lv_bipush (v := (nI 6)) hx hb d_Ta_wordsFrom_65 (by decide) ?_
                refine lv_imul hx hb d_Ta_wordsFrom_67 ?_
                refine t_eq (y := (nI (k * 6))) (pk_mul _ _) ?_
                refine lv_iload hx hb d_Ta_wordsFrom_68 (lv_at hl 0 rfl) ?_
                refine lv_iadd hx hb d_Ta_wordsFrom_70 ?_
                refine t_eq (y := (nI ((k * 6) + i))) (nI_add _ _) ?_
                refine r_ald C0 hK hP 1 rfl (by omega) (by decide) d_Ta_wordsFrom_71 ?_
                refine t_eq (y := (nI (fi ((k * 6) + i)))) rfl ?_
                refine lv_iand hx hb d_Ta_wordsFrom_72 ?_
                refine t_eq (y := (nI (t &&& (fi ((k * 6) + i))))) (m_and _ _) ?_
                refine lv_aload_n hx hb d_Ta_wordsFrom_73 rfl (lv_at hl 5 rfl) ?_
                refine call_i (rm := { frames := 2 + d, cells := 0, slots := 0, locals := 60 + 60 * d }) hS hP hD hA (spl_mk (wc := [(h, .inr (3, [.int (nI kd), .int (nI n), .int (nI w), .int (nI ns), .int (nI hn), .int (nI hq), .ref ft, .int (nI tu)])), (ft, .inl (cI, 36, .inl (nA fi))), (hp, .inr (2, [.ref po, .ref pk, .ref pa, .ref pb, .ref pw, .ref ps, .int (nI tm)])), (po, .inl (cI, 6, .inl (nA op)))]) (wr := []) [0, 1, 2, 3] [] rfl rfl (by decide)) (run_v (n := 3) (As := [.int (nI (k + 1)), .int (nI (t &&& (fi ((k * 6) + i)))), .ref hp]) (rest := [.int (nI (sm (tcV fi op d k t) i))]) (q0 := 0) (ci := 3) C0 (hK.sub [] rfl) (ihr H.size h kd n w ns hn hq ft tu hp po pk pa pb pw ps tm fi op (k + 1) (t &&& (fi ((k * 6) + i))) hn6 htu hfi hop (by omega) (Nat.lt_of_le_of_lt Nat.and_le_left ht)) rfl rfl wt_609 wt_6 wt_606 wt_608 wp_12 (by decide +kernel) ⟨by simp only []; omega, by simp only []; omega⟩ rfl hl.1 rfl (Nat.le_of_ble_eq_true rfl) d_Ta_wordsFrom_74 ⟨Nat.le_refl _, Nat.le_refl _⟩) (fun r_74 _u74 H locs hw_74 hP hD hS => ?_)
                have hP : va_P D cls [(h, .inr (3, [.int (nI kd), .int (nI n), .int (nI w), .int (nI ns), .int (nI hn), .int (nI hq), .ref ft, .int (nI tu)])), (ft, .inl (cI, 36, .inl (nA fi))), (hp, .inr (2, [.ref po, .ref pk, .ref pa, .ref pb, .ref pw, .ref ps, .int (nI tm)])), (po, .inl (cI, 6, .inl (nA op)))] H := hP
                have hD : va_D A [(h, .inr (3, [.int (nI kd), .int (nI n), .int (nI w), .int (nI ns), .int (nI hn), .int (nI hq), .ref ft, .int (nI tu)])), (ft, .inl (cI, 36, .inl (nA fi))), (hp, .inr (2, [.ref po, .ref pk, .ref pa, .ref pb, .ref pw, .ref ps, .int (nI tm)])), (po, .inl (cI, 6, .inl (nA op)))] := hD
                subst hw_74
                refine lv_iadd hx hb d_Ta_wordsFrom_77 ?_
                refine t_eq (y := (nI ((sm (tcV fi op d k t) i) + (twc fi op d (k + 1) (t &&& fi (k * 6 + i)))))) (nI_add _ _) ?_
                refine lv_istore (lv' := [(4, .int (nI ((sm (tcV fi op d k t) i) + (twc fi op d (k + 1) (t &&& fi (k * 6 + i)))))), (5, .int (nI i)), (0, .ref h), (1, .int (nI k)), (2, .int (nI t)), (3, .ref hp)]) hx hb d_Ta_wordsFrom_78 hl (by decide) rfl (fun ls hl => ?_)
                have hl : lv_has ls 6 [(4, .int (nI (sm (tcV fi op d k t) (i + 1)))), (5, .int (nI i)), (0, .ref h), (1, .int (nI k)), (2, .int (nI t)), (3, .ref hp)] := by rw [show sm (tcV fi op d k t) (i + 1) = (sm (tcV fi op d k t) i) + (twc fi op d (k + 1) (t &&& fi (k * 6 + i))) from (tcV_t c_50)]; exact hl
                refine lv_iinc (v := (nI (i + 1))) (lv' := [(5, .int (nI (i + 1))), (4, .int (nI (sm (tcV fi op d k t) (i + 1)))), (0, .ref h), (1, .int (nI k)), (2, .int (nI t)), (3, .ref hp)]) hx hb d_Ta_wordsFrom_80 hl (k := 1) rfl (by exact nI_1 _) (by decide) rfl (fun ls hl => ?_)
                refine lv_goto (tgt := 32) hx hb d_Ta_wordsFrom_83 (by decide) ?_
                exact ih32 (i + 1) (by omega) (by omega) _ _ _ hP hD hS (lv_sub hl [0, 1, 2, 3, 4, 5] rfl)
        exact L32 (7) 0 (by omega) (by omega) _ _ _ hP hD hS (lv_sub hl [0, 1, 2, 3, 4, 5] rfl)
      · exact absurd c_21 (by omega)
  · refine lv_iconst (v := (nI 0)) hx hb d_Ta_wordsFrom_4 (by decide) ?_
    exact ret_i C0 hr hlk hAe hS () (by rw [c_1]; rfl) hP hD rfl (Nat.le_of_ble_eq_true rfl) (Nat.le_of_ble_eq_true rfl) d_Ta_wordsFrom_5
theorem c_Ta_wordsFrom (l : Launch) (D : va_G) (cI : ClassId) (d : Nat) : ∀ (sz : Nat) (h : Nat) (kd : Nat) (n : Nat) (w : Nat) (ns : Nat) (hn : Nat) (hq : Nat) (ft : Nat) (tu : Nat) (hp : Nat) (po : Nat) (pk : Nat) (pa : Nat) (pb : Nat) (pw : Nat) (ps : Nat) (tm : Nat) (fi : Nat → Nat) (op : Nat → Nat) (k : Nat) (t : Nat) (hn6 : n ≤ 6) (htu : tu ≤ 20) (hfi : ∀ j, fi j < 1048576) (hop : ∀ j, op j < 64) (hkd : k + d = n) (ht : t < 1048576), MetI l y_Ta_wordsFrom b_Ta_wordsFrom 6 (some .int) { frames := 2 + d, cells := 0, slots := 0, locals := 60 + 60 * d } D cI [] sz [(h, .inr (3, [.int (nI kd), .int (nI n), .int (nI w), .int (nI ns), .int (nI hn), .int (nI hq), .ref ft, .int (nI tu)])), (ft, .inl (cI, 36, .inl (nA fi))), (hp, .inr (2, [.ref po, .ref pk, .ref pa, .ref pb, .ref pw, .ref ps, .int (nI tm)])), (po, .inl (cI, 6, .inl (nA op)))] [.ref h, .int (nI k), .int (nI t), .ref hp] (fun (r : Int32) (u : Unit) => r = nI (twc fi op d k t)) (fun u : Unit => [(h, .inr (3, [.int (nI kd), .int (nI n), .int (nI w), .int (nI ns), .int (nI hn), .int (nI hq), .ref ft, .int (nI tu)])), (ft, .inl (cI, 36, .inl (nA fi))), (hp, .inr (2, [.ref po, .ref pk, .ref pa, .ref pb, .ref pw, .ref ps, .int (nI tm)])), (po, .inl (cI, 6, .inl (nA op)))]) := by
  induction d with
  | zero => exact tw_0 l D cI
  | succ d ih => exact fun sz h kd n w ns hn hq ft tu hp po pk pa pb pw ps tm fi op k t => tw_s l D cI sz d h kd n w ns hn hq ft tu hp po pk pa pb pw ps tm fi op k t ih
set_option maxHeartbeats 4000000 in
set_option maxRecDepth 100000 in
theorem c_Ta_openWords (l : Launch) (D : va_G) (cI : ClassId) (sz : Nat) (h : Nat) (kd : Nat) (n : Nat) (w : Nat) (ns : Nat) (hn : Nat) (hq : Nat) (ft : Nat) (tu : Nat) (hp : Nat) (po : Nat) (pk : Nat) (pa : Nat) (pb : Nat) (pw : Nat) (ps : Nat) (tm : Nat) (fi : Nat → Nat) (op : Nat → Nat) (hn6 : n ≤ 6) (htu : tu ≤ 20) (hfi : ∀ j, fi j < 1048576) (hop : ∀ j, op j < 64) : MetI l y_Ta_openWords b_Ta_openWords 2 (some .int) { frames := 12, cells := 0, slots := 0, locals := 600 } D cI [] sz [(h, .inr (3, [.int (nI kd), .int (nI n), .int (nI w), .int (nI ns), .int (nI hn), .int (nI hq), .ref ft, .int (nI tu)])), (ft, .inl (cI, 36, .inl (nA fi))), (hp, .inr (2, [.ref po, .ref pk, .ref pa, .ref pb, .ref pw, .ref ps, .int (nI tm)])), (po, .inl (cI, 6, .inl (nA op)))] [.ref h, .ref hp] (fun (r : Int32) (u : Unit) => r = (nI (twc fi op n 0 (otF fi op tu n)))) (fun u : Unit => [(h, .inr (3, [.int (nI kd), .int (nI n), .int (nI w), .int (nI ns), .int (nI hn), .int (nI hq), .ref ft, .int (nI tu)])), (ft, .inl (cI, 36, .inl (nA fi))), (hp, .inr (2, [.ref po, .ref pk, .ref pa, .ref pb, .ref pw, .ref ps, .int (nI tm)])), (po, .inl (cI, 6, .inl (nA op)))]) := by
  refine enter (by decide) (Nat.le_of_ble_eq_true rfl) ?_
  intro p e s m below meth c A ls C0 hr hlk hnm hK hsz hA hAe hP hD hS hl
  have hx := C0.1
  have hb := C0.2.1
  have hl : lv_has ls 2 [(0, .ref h), (1, .ref hp)] := hl
  refine lv_aload_n hx hb d_Ta_openWords_0 rfl (lv_at hl 0 rfl) ?_
  refine lv_iconst (v := (nI 0)) hx hb d_Ta_openWords_1 (by decide) ?_
  refine lv_aload_n hx hb d_Ta_openWords_2 rfl (lv_at hl 0 rfl) ?_
  refine lv_aload_n hx hb d_Ta_openWords_3 rfl (lv_at hl 1 rfl) ?_
  refine call_i (rm := { frames := 1, cells := 0, slots := 0, locals := 21 }) hS hP hD hA (spl_mk (wc := [(h, .inr (3, [.int (nI kd), .int (nI n), .int (nI w), .int (nI ns), .int (nI hn), .int (nI hq), .ref ft, .int (nI tu)])), (ft, .inl (cI, 36, .inl (nA fi))), (hp, .inr (2, [.ref po, .ref pk, .ref pa, .ref pb, .ref pw, .ref ps, .int (nI tm)])), (po, .inl (cI, 6, .inl (nA op)))]) (wr := []) [0, 1, 2, 3] [] rfl rfl (by decide)) (run_v (n := 1) (As := [.ref hp]) (rest := [.int (nI 0), .ref h]) (q0 := 0) (ci := 3) C0 (hK.sub [] rfl) (c_Ta_openTuples l D cI s.heap.size h kd n w ns hn hq ft tu hp po pk pa pb pw ps tm fi op (by omega) (by omega) hfi hop) rfl rfl wt_525 wt_6 wt_522 wt_524 wp_8 (by decide +kernel) ⟨Nat.le_of_ble_eq_true rfl, Nat.le_of_ble_eq_true rfl⟩ rfl hl.1 rfl (Nat.le_of_ble_eq_true rfl) d_Ta_openWords_4 ⟨Nat.le_of_ble_eq_true rfl, Nat.le_of_ble_eq_true rfl⟩) (fun r_4 _u4 H locs hw_4 hP hD hS => ?_)
  have hP : va_P D cls [(h, .inr (3, [.int (nI kd), .int (nI n), .int (nI w), .int (nI ns), .int (nI hn), .int (nI hq), .ref ft, .int (nI tu)])), (ft, .inl (cI, 36, .inl (nA fi))), (hp, .inr (2, [.ref po, .ref pk, .ref pa, .ref pb, .ref pw, .ref ps, .int (nI tm)])), (po, .inl (cI, 6, .inl (nA op)))] H := hP
  have hD : va_D A [(h, .inr (3, [.int (nI kd), .int (nI n), .int (nI w), .int (nI ns), .int (nI hn), .int (nI hq), .ref ft, .int (nI tu)])), (ft, .inl (cI, 36, .inl (nA fi))), (hp, .inr (2, [.ref po, .ref pk, .ref pa, .ref pb, .ref pw, .ref ps, .int (nI tm)])), (po, .inl (cI, 6, .inl (nA op)))] := hD
  subst hw_4
  refine lv_aload_n hx hb d_Ta_openWords_7 rfl (lv_at hl 1 rfl) ?_
  refine call_i (rm := { frames := 2 + n, cells := 0, slots := 0, locals := 60 + 60 * n }) hS hP hD hA (spl_mk (wc := [(h, .inr (3, [.int (nI kd), .int (nI n), .int (nI w), .int (nI ns), .int (nI hn), .int (nI hq), .ref ft, .int (nI tu)])), (ft, .inl (cI, 36, .inl (nA fi))), (hp, .inr (2, [.ref po, .ref pk, .ref pa, .ref pb, .ref pw, .ref ps, .int (nI tm)])), (po, .inl (cI, 6, .inl (nA op)))]) (wr := []) [0, 1, 2, 3] [] rfl rfl (by decide)) (run_v (n := 3) (As := [.int (nI 0), .int (nI (otF fi op tu n)), .ref hp]) (rest := []) (q0 := 0) (ci := 3) C0 (hK.sub [] rfl) (c_Ta_wordsFrom l D cI n H.size h kd n w ns hn hq ft tu hp po pk pa pb pw ps tm fi op 0 (otF fi op tu n) hn6 htu hfi hop (by omega) (otF_lt htu n)) rfl rfl wt_609 wt_6 wt_606 wt_608 wp_12 (by decide +kernel) ⟨by simp only []; omega, by simp only []; omega⟩ rfl hl.1 rfl (Nat.le_of_ble_eq_true rfl) d_Ta_openWords_8 ⟨Nat.le_refl _, Nat.le_refl _⟩) (fun r_8 _u8 H locs hw_8 hP hD hS => ?_)
  have hP : va_P D cls [(h, .inr (3, [.int (nI kd), .int (nI n), .int (nI w), .int (nI ns), .int (nI hn), .int (nI hq), .ref ft, .int (nI tu)])), (ft, .inl (cI, 36, .inl (nA fi))), (hp, .inr (2, [.ref po, .ref pk, .ref pa, .ref pb, .ref pw, .ref ps, .int (nI tm)])), (po, .inl (cI, 6, .inl (nA op)))] H := hP
  have hD : va_D A [(h, .inr (3, [.int (nI kd), .int (nI n), .int (nI w), .int (nI ns), .int (nI hn), .int (nI hq), .ref ft, .int (nI tu)])), (ft, .inl (cI, 36, .inl (nA fi))), (hp, .inr (2, [.ref po, .ref pk, .ref pa, .ref pb, .ref pw, .ref ps, .int (nI tm)])), (po, .inl (cI, 6, .inl (nA op)))] := hD
  subst hw_8
  exact ret_i C0 hr hlk hAe hS () rfl hP hD rfl (Nat.le_of_ble_eq_true rfl) (Nat.le_of_ble_eq_true rfl) d_Ta_openWords_11
set_option maxHeartbeats 4000000 in
set_option maxRecDepth 100000 in
theorem c_Ta_put (l : Launch) (D : va_G) (cI : ClassId) (sz : Nat) (h : Nat) (kd : Nat) (n : Nat) (w : Nat) (ns : Nat) (hn : Nat) (hq : Nat) (ft : Nat) (tu : Nat) (fi : Nat → Nat) (v : Nat) (hn6 : n ≤ 6) (htu : tu ≤ 20) (hv : v < 2147483648) : MetI l y_Ta_put b_Ta_put 5 (some .int) { frames := 1, cells := 0, slots := 0, locals := 21 } D cI [] sz [(h, .inr (3, [.int (nI kd), .int (nI n), .int (nI w), .int (nI ns), .int (nI hn), .int (nI hq), .ref ft, .int (nI tu)])), (ft, .inl (cI, 36, .inl (nA fi)))] [.ref h, .int (nI v)] (fun (r : Int32) (u : (Nat → Nat) × Nat) => (tu < 20 ∧ r = nI (tu + 1) ∧ u = (fPut fi v tu (n * 6), tu + 1)) ∨ (20 ≤ tu ∧ r = -3 ∧ u = (fi, tu))) (fun u : (Nat → Nat) × Nat => [(h, .inr (3, [.int (nI kd), .int (nI n), .int (nI w), .int (nI ns), .int (nI hn), .int (nI hq), .ref ft, .int (nI u.2)])), (ft, .inl (cI, 36, .inl (nA u.1)))]) := by
  refine enter (by decide) (Nat.le_of_ble_eq_true rfl) ?_
  intro p e s m below meth c A ls C0 hr hlk hnm hK hsz hA hAe hP hD hS hl
  have hx := C0.1
  have hb := C0.2.1
  have hl : lv_has ls 5 [(0, .ref h), (1, .int (nI v))] := hl
  refine lv_aload_n hx hb d_Ta_put_0 rfl (lv_at hl 0 rfl) ?_
  refine r_get C0 hK hP 0 rfl rfl i_Ta 7 (by decide) wt_163 (fun _ h => h) rfl d_Ta_put_1 ?_
  refine lv_bipush (v := (nI 20)) hx hb d_Ta_put_4 (by decide) ?_
  refine b_lt (tgt := 12) hx hb (by omega) (by decide) d_Ta_put_6 (by decide) (fun c_6 => ?_) (fun c_6 => ?_)
  · refine lv_iconst (v := (nI 0)) hx hb d_Ta_put_12 (by decide) ?_
    refine lv_istore_n (lv' := [(2, .int (nI 0)), (0, .ref h), (1, .int (nI v))]) hx hb d_Ta_put_13 rfl hl (by decide) rfl (fun ls hl => ?_)
    rw [show fi = fPut fi v tu (0 * 6 + 0) from fPut_0.symm] at hP hD
    have L14 : ∀ (fuel14 : Nat) (k : Nat), (k ≤ n) → (n < k + fuel14) → ∀ (H : Heap) (locs : List Loc) (ls : Array Slot), va_P D cls [(h, .inr (3, [.int (nI kd), .int (nI n), .int (nI w), .int (nI ns), .int (nI hn), .int (nI hq), .ref ft, .int (nI tu)])), (ft, .inl (cI, 36, .inl (nA (fPut fi v tu (k * 6 + 0)))))] H → va_D A [(h, .inr (3, [.int (nI kd), .int (nI n), .int (nI w), .int (nI ns), .int (nI hn), .int (nI hq), .ref ft, .int (nI tu)])), (ft, .inl (cI, 36, .inl (nA (fPut fi v tu (k * 6 + 0)))))] → va_S A s.heap H locs → lv_has ls 5 [(2, .int (nI k)), (0, .ref h), (1, .int (nI v))] → W p l e { frames := 1, cells := 0, slots := 0, locals := 21 } s m ([.ref h, .int (nI v)] : List Value).toArray below meth c H locs 0 0 (MQ below (pstI D [(h, .inr (3, [.int (nI kd), .int (nI n), .int (nI w), .int (nI ns), .int (nI hn), .int (nI hq), .ref ft, .int (nI tu)])), (ft, .inl (cI, 36, .inl (nA fi)))] sz (fun (r : Int32) (u : (Nat → Nat) × Nat) => (tu < 20 ∧ r = nI (tu + 1) ∧ u = (fPut fi v tu (n * 6), tu + 1)) ∨ (20 ≤ tu ∧ r = -3 ∧ u = (fi, tu))) (fun u : (Nat → Nat) × Nat => [(h, .inr (3, [.int (nI kd), .int (nI n), .int (nI w), .int (nI ns), .int (nI hn), .int (nI hq), .ref ft, .int (nI u.2)])), (ft, .inl (cI, 36, .inl (nA u.1)))])) ([.ref h, .int (nI v)] : List Value).toArray s 0 0 A) (F0 m 14 ls []) := by
      intro fuel14
      induction fuel14 with
      | zero => intros; omega
      | succ fuel14 ih14 =>
        intro k hk hfu H locs ls hP hD hS hl
        refine lv_iload_n hx hb d_Ta_put_14 rfl (lv_at hl 0 rfl) ?_
        refine lv_aload_n hx hb d_Ta_put_15 rfl (lv_at hl 1 rfl) ?_
        refine r_get C0 hK hP 0 rfl rfl i_Ta 1 (by decide) wt_171 (fun x h => u_same (C0.2.2.2.2 _ wt_172) x h) rfl d_Ta_put_16 ?_
        refine b_ge (tgt := 89) hx hb (by omega) (by omega) d_Ta_put_19 (by decide) (fun c_19 => ?_) (fun c_19 => ?_)
        · refine lv_aload_n hx hb d_Ta_put_89 rfl (lv_at hl 1 rfl) ?_
          refine lv_dup hx hb d_Ta_put_90 rfl ?_
          refine r_get C0 hK hP 0 rfl rfl i_Ta 7 (by decide) wt_163 (fun _ h => h) rfl d_Ta_put_91 ?_
          refine lv_iconst (v := (nI 1)) hx hb d_Ta_put_94 (by decide) ?_
          refine lv_iadd hx hb d_Ta_put_95 ?_
          refine t_eq (y := (nI (tu + 1))) (nI_add _ _) ?_
          refine r_put C0 hK hP hD hS 0 rfl rfl i_Ta t_Ta k_Ta n_Ta 7 (by decide) wt_163 (fun _ h => h) rfl rfl rfl (Nat.le_of_ble_eq_true rfl) d_Ta_put_96 (fun H locs hP hD hS => ?_)
          have hP : va_P D cls [(h, .inr (3, [.int (nI kd), .int (nI n), .int (nI w), .int (nI ns), .int (nI hn), .int (nI hq), .ref ft, .int (nI (tu + 1))])), (ft, .inl (cI, 36, .inl (nA (fPut fi v tu (k * 6 + 0)))))] H := hP
          have hD : va_D A [(h, .inr (3, [.int (nI kd), .int (nI n), .int (nI w), .int (nI ns), .int (nI hn), .int (nI hq), .ref ft, .int (nI (tu + 1))])), (ft, .inl (cI, 36, .inl (nA (fPut fi v tu (k * 6 + 0)))))] := hD
          refine lv_aload_n hx hb d_Ta_put_99 rfl (lv_at hl 1 rfl) ?_
          refine r_get C0 hK hP 0 rfl rfl i_Ta 7 (by decide) wt_163 (fun _ h => h) rfl d_Ta_put_100 ?_
          exact ret_i C0 hr hlk hAe hS (fPut fi v tu (k * 6 + 0), tu + 1) (by obtain rfl : k = n := (by omega); exact Or.inl ⟨c_6, rfl, rfl⟩) hP hD rfl (Nat.le_of_ble_eq_true rfl) (Nat.le_of_ble_eq_true rfl) d_Ta_put_103
        · refine lv_iload_n hx hb d_Ta_put_22 rfl (lv_at hl 0 rfl) ?_
          refine lv_bipush (v := (nI 6)) hx hb d_Ta_put_23 (by decide) ?_
          refine b_ge (tgt := 89) hx hb (by omega) (by decide) d_Ta_put_25 (by decide) (fun c_25 => ?_) (fun c_25 => ?_)
          · refine lv_aload_n hx hb d_Ta_put_89 rfl (lv_at hl 1 rfl) ?_
            refine lv_dup hx hb d_Ta_put_90 rfl ?_
            refine r_get C0 hK hP 0 rfl rfl i_Ta 7 (by decide) wt_163 (fun _ h => h) rfl d_Ta_put_91 ?_
            refine lv_iconst (v := (nI 1)) hx hb d_Ta_put_94 (by decide) ?_
            refine lv_iadd hx hb d_Ta_put_95 ?_
            refine t_eq (y := (nI (tu + 1))) (nI_add _ _) ?_
            refine r_put C0 hK hP hD hS 0 rfl rfl i_Ta t_Ta k_Ta n_Ta 7 (by decide) wt_163 (fun _ h => h) rfl rfl rfl (Nat.le_of_ble_eq_true rfl) d_Ta_put_96 (fun H locs hP hD hS => ?_)
            have hP : va_P D cls [(h, .inr (3, [.int (nI kd), .int (nI n), .int (nI w), .int (nI ns), .int (nI hn), .int (nI hq), .ref ft, .int (nI (tu + 1))])), (ft, .inl (cI, 36, .inl (nA (fPut fi v tu (k * 6 + 0)))))] H := hP
            have hD : va_D A [(h, .inr (3, [.int (nI kd), .int (nI n), .int (nI w), .int (nI ns), .int (nI hn), .int (nI hq), .ref ft, .int (nI (tu + 1))])), (ft, .inl (cI, 36, .inl (nA (fPut fi v tu (k * 6 + 0)))))] := hD
            refine lv_aload_n hx hb d_Ta_put_99 rfl (lv_at hl 1 rfl) ?_
            refine r_get C0 hK hP 0 rfl rfl i_Ta 7 (by decide) wt_163 (fun _ h => h) rfl d_Ta_put_100 ?_
            exact ret_i C0 hr hlk hAe hS (fPut fi v tu (k * 6 + 0), tu + 1) (by obtain rfl : k = n := (by omega); exact Or.inl ⟨c_6, rfl, rfl⟩) hP hD rfl (Nat.le_of_ble_eq_true rfl) (Nat.le_of_ble_eq_true rfl) d_Ta_put_103
          · refine lv_iload_n hx hb d_Ta_put_28 rfl (lv_at hl 2 rfl) ?_
            refine lv_iload_n hx hb d_Ta_put_29 rfl (lv_at hl 0 rfl) ?_
            refine call_i (rm := { frames := 0, cells := 0, slots := 0, locals := 0 }) hS hP hD hA (spl_mk (wc := []) (wr := [(h, .inr (3, [.int (nI kd), .int (nI n), .int (nI w), .int (nI ns), .int (nI hn), .int (nI hq), .ref ft, .int (nI tu)])), (ft, .inl (cI, 36, .inl (nA (fPut fi v tu (k * 6 + 0)))))]) [] [0, 1] rfl rfl (by decide)) (run_sN (n := 2) (As := [.int (nI v), .int (nI k)]) (rest := []) C0 (hK.sub [] rfl) (c_TC_digit l D cI H.size v k (by omega) (by omega)) wt_140 wt_1 wn_226 wt_139 (by decide +kernel) ⟨Nat.le_of_ble_eq_true rfl, Nat.le_of_ble_eq_true rfl⟩ rfl hl.1 rfl (Nat.le_of_ble_eq_true rfl) d_Ta_put_30 ⟨Nat.le_of_ble_eq_true rfl, Nat.le_of_ble_eq_true rfl⟩) (fun r_30 _u30 H locs hw_30 hP hD hS => ?_)
            have hP : va_P D cls [(h, .inr (3, [.int (nI kd), .int (nI n), .int (nI w), .int (nI ns), .int (nI hn), .int (nI hq), .ref ft, .int (nI tu)])), (ft, .inl (cI, 36, .inl (nA (fPut fi v tu (k * 6 + 0)))))] H := hP
            have hD : va_D A [(h, .inr (3, [.int (nI kd), .int (nI n), .int (nI w), .int (nI ns), .int (nI hn), .int (nI hq), .ref ft, .int (nI tu)])), (ft, .inl (cI, 36, .inl (nA (fPut fi v tu (k * 6 + 0)))))] := hD
            subst hw_30
            have hd_30 := dgt_lt v k
            refine lv_istore_n (lv' := [(3, .int (nI (dgt v k))), (2, .int (nI k)), (0, .ref h), (1, .int (nI v))]) hx hb d_Ta_put_33 rfl hl (by decide) rfl (fun ls hl => ?_)
            refine lv_iconst (v := (nI 0)) hx hb d_Ta_put_34 (by decide) ?_
            refine lv_istore (lv' := [(4, .int (nI 0)), (3, .int (nI (dgt v k))), (2, .int (nI k)), (0, .ref h), (1, .int (nI v))]) hx hb d_Ta_put_35 hl (by decide) rfl (fun ls hl => ?_)
            have L37 : ∀ (fuel37 : Nat) (i : Nat), (i ≤ 6) → (6 < i + fuel37) → ∀ (H : Heap) (locs : List Loc) (ls : Array Slot), va_P D cls [(h, .inr (3, [.int (nI kd), .int (nI n), .int (nI w), .int (nI ns), .int (nI hn), .int (nI hq), .ref ft, .int (nI tu)])), (ft, .inl (cI, 36, .inl (nA (fPut fi v tu (k * 6 + i)))))] H → va_D A [(h, .inr (3, [.int (nI kd), .int (nI n), .int (nI w), .int (nI ns), .int (nI hn), .int (nI hq), .ref ft, .int (nI tu)])), (ft, .inl (cI, 36, .inl (nA (fPut fi v tu (k * 6 + i)))))] → va_S A s.heap H locs → lv_has ls 5 [(4, .int (nI i)), (3, .int (nI (dgt v k))), (2, .int (nI k)), (0, .ref h), (1, .int (nI v))] → W p l e { frames := 1, cells := 0, slots := 0, locals := 21 } s m ([.ref h, .int (nI v)] : List Value).toArray below meth c H locs 0 0 (MQ below (pstI D [(h, .inr (3, [.int (nI kd), .int (nI n), .int (nI w), .int (nI ns), .int (nI hn), .int (nI hq), .ref ft, .int (nI tu)])), (ft, .inl (cI, 36, .inl (nA fi)))] sz (fun (r : Int32) (u : (Nat → Nat) × Nat) => (tu < 20 ∧ r = nI (tu + 1) ∧ u = (fPut fi v tu (n * 6), tu + 1)) ∨ (20 ≤ tu ∧ r = -3 ∧ u = (fi, tu))) (fun u : (Nat → Nat) × Nat => [(h, .inr (3, [.int (nI kd), .int (nI n), .int (nI w), .int (nI ns), .int (nI hn), .int (nI hq), .ref ft, .int (nI u.2)])), (ft, .inl (cI, 36, .inl (nA u.1)))])) ([.ref h, .int (nI v)] : List Value).toArray s 0 0 A) (F0 m 37 ls []) := by
              intro fuel37
              induction fuel37 with
              | zero => intros; omega
              | succ fuel37 ih37 =>
                intro i hi hfu2 H locs ls hP hD hS hl
                refine lv_iload hx hb d_Ta_put_37 (lv_at hl 0 rfl) ?_
                refine lv_bipush (v := (nI 6)) hx hb d_Ta_put_39 (by decide) ?_
                refine b_ge (tgt := 83) hx hb (by omega) (by decide) d_Ta_put_41 (by decide) (fun c_41 => ?_) (fun c_41 => ?_)
                · obtain rfl : i = 6 := (by omega)
                  rw [show (fPut fi v tu (k * 6 + 6)) = fPut fi v tu ((k + 1) * 6 + 0) from fPut_n] at hP hD
                  refine lv_iinc (v := (nI (k + 1))) (lv' := [(2, .int (nI (k + 1))), (4, .int (nI 6)), (3, .int (nI (dgt v k))), (0, .ref h), (1, .int (nI v))]) hx hb d_Ta_put_83 hl (k := 2) rfl (by exact nI_1 _) (by decide) rfl (fun ls hl => ?_)
                  refine lv_goto (tgt := 14) hx hb d_Ta_put_86 (by decide) ?_
                  exact ih14 (k + 1) (by omega) (by omega) _ _ _ hP hD hS (lv_sub hl [0, 3, 4] rfl)
                · refine lv_iload_n hx hb d_Ta_put_44 rfl (lv_at hl 1 rfl) ?_
                  refine lv_bipush (v := (nI 7)) hx hb d_Ta_put_45 (by decide) ?_
                  refine b_eq (tgt := 56) hx hb (by have := dgt_lt v k; omega) (by decide) d_Ta_put_47 (by decide) (fun c_47 => ?_) (fun c_47 => ?_)
                  · refine lv_aload_n hx hb d_Ta_put_56 rfl (lv_at hl 3 rfl) ?_
                    refine r_get C0 hK hP 0 rfl rfl i_Ta 6 (by decide) wt_162 (fun _ h => h) rfl d_Ta_put_57 ?_
                    refine lv_iload_n hx hb d_Ta_put_60 rfl (lv_at hl 2 rfl) ?_
                    refine lv_bipush (v := (nI 6)) hx hb d_Ta_put_61 (by decide) ?_
                    refine lv_imul hx hb d_Ta_put_63 ?_
                    refine t_eq (y := (nI (k * 6))) (pk_mul _ _) ?_
                    refine lv_iload hx hb d_Ta_put_64 (lv_at hl 0 rfl) ?_
                    refine lv_iadd hx hb d_Ta_put_66 ?_
                    refine t_eq (y := (nI ((k * 6) + i))) (nI_add _ _) ?_
                    refine lv_dup2_11 hx hb d_Ta_put_67 rfl rfl ?_
                    refine r_ald C0 hK hP 1 rfl (by omega) (by decide) d_Ta_put_68 ?_
                    refine t_eq (y := (nI ((fPut fi v tu (k * 6 + i)) ((k * 6) + i)))) rfl ?_
                    refine lv_iconst (v := (nI 1)) hx hb d_Ta_put_69 (by decide) ?_
                    refine lv_aload_n hx hb d_Ta_put_70 rfl (lv_at hl 3 rfl) ?_
                    refine r_get C0 hK hP 0 rfl rfl i_Ta 7 (by decide) wt_163 (fun _ h => h) rfl d_Ta_put_71 ?_
                    refine lv_ishl hx hb d_Ta_put_74 ?_
                    refine t_eq (y := (nI (1 * 2 ^ tu))) (m_shl _ (by omega)) ?_
                    refine lv_ior hx hb d_Ta_put_75 ?_
                    refine t_eq (y := (nI (((fPut fi v tu (k * 6 + i)) ((k * 6) + i)) ||| (1 * 2 ^ tu)))) (m_or _ _) ?_
                    refine r_astN C0 hK hP hD hS 1 rfl (by omega) (by decide) d_Ta_put_76 (fun H locs hP hD hS => ?_)
                    have hP : va_P D cls [(h, .inr (3, [.int (nI kd), .int (nI n), .int (nI w), .int (nI ns), .int (nI hn), .int (nI hq), .ref ft, .int (nI tu)])), (ft, .inl (cI, 36, .inl (nA (va_up (fPut fi v tu (k * 6 + i)) ((k * 6) + i) (((fPut fi v tu (k * 6 + i)) ((k * 6) + i)) ||| (1 * 2 ^ tu))))))] H := hP
                    have hD : va_D A [(h, .inr (3, [.int (nI kd), .int (nI n), .int (nI w), .int (nI ns), .int (nI hn), .int (nI hq), .ref ft, .int (nI tu)])), (ft, .inl (cI, 36, .inl (nA (va_up (fPut fi v tu (k * 6 + i)) ((k * 6) + i) (((fPut fi v tu (k * 6 + i)) ((k * 6) + i)) ||| (1 * 2 ^ tu))))))] := hD
                    have hye : dgt v k = 7 ∨ dgt v k = i := by first | exact Or.inl c_47 | exact Or.inr c_53
                    rw [show (va_up (fPut fi v tu (k * 6 + i)) ((k * 6) + i) (((fPut fi v tu (k * 6 + i)) ((k * 6) + i)) ||| (1 * 2 ^ tu))) = fPut fi v tu (k * 6 + (i + 1)) from fPut_t (by omega) hye] at hP hD
                    refine lv_iinc (v := (nI (i + 1))) (lv' := [(4, .int (nI (i + 1))), (3, .int (nI (dgt v k))), (2, .int (nI k)), (0, .ref h), (1, .int (nI v))]) hx hb d_Ta_put_77 hl (k := 0) rfl (by exact nI_1 _) (by decide) rfl (fun ls hl => ?_)
                    refine lv_goto (tgt := 37) hx hb d_Ta_put_80 (by decide) ?_
                    exact ih37 (i + 1) (by omega) (by omega) _ _ _ hP hD hS (lv_sub hl [0, 1, 2, 3, 4] rfl)
                  · refine lv_iload_n hx hb d_Ta_put_50 rfl (lv_at hl 1 rfl) ?_
                    refine lv_iload hx hb d_Ta_put_51 (lv_at hl 0 rfl) ?_
                    refine b_ne (tgt := 77) hx hb (by have := dgt_lt v k; omega) (by omega) d_Ta_put_53 (by decide) (fun c_53 => ?_) (fun c_53 => ?_)
                    · rw [show (fPut fi v tu (k * 6 + i)) = fPut fi v tu (k * 6 + (i + 1)) from fPut_f (by omega) (by omega)] at hP hD
                      refine lv_iinc (v := (nI (i + 1))) (lv' := [(4, .int (nI (i + 1))), (3, .int (nI (dgt v k))), (2, .int (nI k)), (0, .ref h), (1, .int (nI v))]) hx hb d_Ta_put_77 hl (k := 0) rfl (by exact nI_1 _) (by decide) rfl (fun ls hl => ?_)
                      refine lv_goto (tgt := 37) hx hb d_Ta_put_80 (by decide) ?_
                      exact ih37 (i + 1) (by omega) (by omega) _ _ _ hP hD hS (lv_sub hl [0, 1, 2, 3, 4] rfl)
                    · refine lv_aload_n hx hb d_Ta_put_56 rfl (lv_at hl 3 rfl) ?_
                      refine r_get C0 hK hP 0 rfl rfl i_Ta 6 (by decide) wt_162 (fun _ h => h) rfl d_Ta_put_57 ?_
                      refine lv_iload_n hx hb d_Ta_put_60 rfl (lv_at hl 2 rfl) ?_
                      refine lv_bipush (v := (nI 6)) hx hb d_Ta_put_61 (by decide) ?_
                      refine lv_imul hx hb d_Ta_put_63 ?_
                      refine t_eq (y := (nI (k * 6))) (pk_mul _ _) ?_
                      refine lv_iload hx hb d_Ta_put_64 (lv_at hl 0 rfl) ?_
                      refine lv_iadd hx hb d_Ta_put_66 ?_
                      refine t_eq (y := (nI ((k * 6) + i))) (nI_add _ _) ?_
                      refine lv_dup2_11 hx hb d_Ta_put_67 rfl rfl ?_
                      refine r_ald C0 hK hP 1 rfl (by omega) (by decide) d_Ta_put_68 ?_
                      refine t_eq (y := (nI ((fPut fi v tu (k * 6 + i)) ((k * 6) + i)))) rfl ?_
                      refine lv_iconst (v := (nI 1)) hx hb d_Ta_put_69 (by decide) ?_
                      refine lv_aload_n hx hb d_Ta_put_70 rfl (lv_at hl 3 rfl) ?_
                      refine r_get C0 hK hP 0 rfl rfl i_Ta 7 (by decide) wt_163 (fun _ h => h) rfl d_Ta_put_71 ?_
                      refine lv_ishl hx hb d_Ta_put_74 ?_
                      refine t_eq (y := (nI (1 * 2 ^ tu))) (m_shl _ (by omega)) ?_
                      refine lv_ior hx hb d_Ta_put_75 ?_
                      refine t_eq (y := (nI (((fPut fi v tu (k * 6 + i)) ((k * 6) + i)) ||| (1 * 2 ^ tu)))) (m_or _ _) ?_
                      refine r_astN C0 hK hP hD hS 1 rfl (by omega) (by decide) d_Ta_put_76 (fun H locs hP hD hS => ?_)
                      have hP : va_P D cls [(h, .inr (3, [.int (nI kd), .int (nI n), .int (nI w), .int (nI ns), .int (nI hn), .int (nI hq), .ref ft, .int (nI tu)])), (ft, .inl (cI, 36, .inl (nA (va_up (fPut fi v tu (k * 6 + i)) ((k * 6) + i) (((fPut fi v tu (k * 6 + i)) ((k * 6) + i)) ||| (1 * 2 ^ tu))))))] H := hP
                      have hD : va_D A [(h, .inr (3, [.int (nI kd), .int (nI n), .int (nI w), .int (nI ns), .int (nI hn), .int (nI hq), .ref ft, .int (nI tu)])), (ft, .inl (cI, 36, .inl (nA (va_up (fPut fi v tu (k * 6 + i)) ((k * 6) + i) (((fPut fi v tu (k * 6 + i)) ((k * 6) + i)) ||| (1 * 2 ^ tu))))))] := hD
                      have hye : dgt v k = 7 ∨ dgt v k = i := by first | exact Or.inl c_47 | exact Or.inr c_53
                      rw [show (va_up (fPut fi v tu (k * 6 + i)) ((k * 6) + i) (((fPut fi v tu (k * 6 + i)) ((k * 6) + i)) ||| (1 * 2 ^ tu))) = fPut fi v tu (k * 6 + (i + 1)) from fPut_t (by omega) hye] at hP hD
                      refine lv_iinc (v := (nI (i + 1))) (lv' := [(4, .int (nI (i + 1))), (3, .int (nI (dgt v k))), (2, .int (nI k)), (0, .ref h), (1, .int (nI v))]) hx hb d_Ta_put_77 hl (k := 0) rfl (by exact nI_1 _) (by decide) rfl (fun ls hl => ?_)
                      refine lv_goto (tgt := 37) hx hb d_Ta_put_80 (by decide) ?_
                      exact ih37 (i + 1) (by omega) (by omega) _ _ _ hP hD hS (lv_sub hl [0, 1, 2, 3, 4] rfl)
            exact L37 (7) 0 (by omega) (by omega) _ _ _ hP hD hS (lv_sub hl [0, 1, 2, 3, 4] rfl)
    exact L14 (n + 1) 0 (by omega) (by omega) _ _ _ hP hD hS (lv_sub hl [0, 1, 2] rfl)
  · refine lv_bipush (v := (-3)) hx hb d_Ta_put_9 (by decide) ?_
    exact ret_i C0 hr hlk hAe hS (fi, tu) (Or.inr ⟨c_6, rfl, rfl⟩) hP hD rfl (Nat.le_of_ble_eq_true rfl) (Nat.le_of_ble_eq_true rfl) d_Ta_put_11
