set_option maxHeartbeats 4000000 in
set_option maxRecDepth 100000 in
theorem wf_0 (l : Launch) (D : va_G) (cI : ClassId) (sz : Nat) (h : Nat) (kk : Nat) (kd : Nat) (n : Nat) (w : Nat) (ns : Nat) (hn : Nat) (hq : Nat) (a : Nat) (b : Nat) (z : Nat) (hp : Nat) (po : Nat) (pk : Nat) (pa : Nat) (pb : Nat) (pw : Nat) (ps : Nat) (tm : Nat) (op : Nat → Nat) (kp : Nat → Nat) (wd : Nat → Nat) (ks : Nat → Nat) (k : Nat) (x : Nat) (hok : okc kk n a b z) (hxo : xok kk k x) (hkd : k + 0 = n) (htm : tm < 2147483648) (hks : ∀ j, ks j ≤ tm) (hop : ∀ j, op j < 64) (hme : memo op kk n a b z tm wd ks kp) : MetI l y_Wa_wordsFrom b_Wa_wordsFrom 9 (some .int) { frames := 3 + 0, cells := 0, slots := 0, locals := 100 + 60 * 0 } D cI [] sz [(h, .inr (kk + 3, .int (nI kd) :: .int (nI n) :: .int (nI w) :: .int (nI ns) :: .int (nI hn) :: .int (nI hq) :: xt kk a b z)), (hp, .inr (2, [.ref po, .ref pk, .ref pa, .ref pb, .ref pw, .ref ps, .int (nI tm)])), (po, .inl (cI, 6, .inl (nA op))), (pk, .inl (cI, 6, .inl (nA kp))), (pw, .inl (cI, 384, .inl (nA wd))), (ps, .inl (cI, 384, .inl (nA ks)))] [.ref h, .int (nI k), .int (nI x), .ref hp] (fun (r : Int32) (u : (Nat → Nat) × (Nat → Nat) × (Nat → Nat)) => r = nI (wcnt op kk n a b z 0 k x) ∧ u.1 = kpK kp (kmk op kk n a b z 0 k x) ∧ memo op kk n a b z tm u.2.1 u.2.2 u.1 ∧ ∀ j, u.2.2 j ≤ tm) (fun u : (Nat → Nat) × (Nat → Nat) × (Nat → Nat) => [(h, .inr (kk + 3, .int (nI kd) :: .int (nI n) :: .int (nI w) :: .int (nI ns) :: .int (nI hn) :: .int (nI hq) :: xt kk a b z)), (hp, .inr (2, [.ref po, .ref pk, .ref pa, .ref pb, .ref pw, .ref ps, .int (nI tm)])), (po, .inl (cI, 6, .inl (nA op))), (pk, .inl (cI, 6, .inl (nA u.1))), (pw, .inl (cI, 384, .inl (nA u.2.1))), (ps, .inl (cI, 384, .inl (nA u.2.2)))]) := by
  refine enter (by decide) (Nat.le_of_ble_eq_true rfl) ?_
  intro p e s m below meth c A ls C0 hr hlk hnm hK hsz hA hAe hP hD hS hl
  have hx := C0.1
  have hb := C0.2.1
  have hl : lv_has ls 9 [(0, .ref h), (1, .int (nI k)), (2, .int (nI x)), (3, .ref hp)] := hl
  have hn6 := hok.2.1
  refine lv_iload_n hx hb d_Wa_wordsFrom_0 rfl (lv_at hl 1 rfl) ?_
  refine z_lt (tgt := 18) hx hb (by omega) d_Wa_wordsFrom_1 (by decide) ?_
  refine lv_iload_n hx hb d_Wa_wordsFrom_4 rfl (lv_at hl 1 rfl) ?_
  refine lv_aload_n hx hb d_Wa_wordsFrom_5 rfl (lv_at hl 0 rfl) ?_
  refine r_getC C0 hK hP 0 rfl (okc_ci hok) 1 (by decide) wt_176 (fun x h => u_same (C0.2.2.2.2 _ wt_177) x h) rfl d_Wa_wordsFrom_6 ?_
  refine b_ge (tgt := 18) hx hb (by have := hok.2.1; omega) (by have := hok.2.1; omega) d_Wa_wordsFrom_9 (by decide) (fun c_9 => ?_) (fun c_9 => ?_)
  · refine lv_aload_n hx hb d_Wa_wordsFrom_18 rfl (lv_at hl 0 rfl) ?_
    refine lv_iload_n hx hb d_Wa_wordsFrom_19 rfl (lv_at hl 2 rfl) ?_
    refine call_i (rm := { frames := 0, cells := 0, slots := 0, locals := 0 }) hS hP hD hA (spl_mk (wc := [(h, .inr (kk + 3, .int (nI kd) :: .int (nI n) :: .int (nI w) :: .int (nI ns) :: .int (nI hn) :: .int (nI hq) :: xt kk a b z))]) (wr := [(hp, .inr (2, [.ref po, .ref pk, .ref pa, .ref pb, .ref pw, .ref ps, .int (nI tm)])), (po, .inl (cI, 6, .inl (nA op))), (pk, .inl (cI, 6, .inl (nA kp))), (pw, .inl (cI, 384, .inl (nA wd))), (ps, .inl (cI, 384, .inl (nA ks)))]) [0] [1, 2, 3, 4, 5] rfl rfl (by decide)) (run_isGoodAtEnd (rest := []) C0 hK hok hxo.1 ⟨by simp only []; omega, by simp only []; omega⟩ hl.1 (Nat.le_of_ble_eq_true rfl) d_Wa_wordsFrom_20 ⟨Nat.le_refl _, Nat.le_refl _⟩) (fun r_20 _u20 H locs hw_20 hP hD hS => ?_)
    have hP : va_P D cls [(hp, .inr (2, [.ref po, .ref pk, .ref pa, .ref pb, .ref pw, .ref ps, .int (nI tm)])), (po, .inl (cI, 6, .inl (nA op))), (pk, .inl (cI, 6, .inl (nA kp))), (pw, .inl (cI, 384, .inl (nA wd))), (ps, .inl (cI, 384, .inl (nA ks))), (h, .inr (kk + 3, .int (nI kd) :: .int (nI n) :: .int (nI w) :: .int (nI ns) :: .int (nI hn) :: .int (nI hq) :: xt kk a b z))] H := hP
    have hD : va_D A [(hp, .inr (2, [.ref po, .ref pk, .ref pa, .ref pb, .ref pw, .ref ps, .int (nI tm)])), (po, .inl (cI, 6, .inl (nA op))), (pk, .inl (cI, 6, .inl (nA kp))), (pw, .inl (cI, 384, .inl (nA wd))), (ps, .inl (cI, 384, .inl (nA ks))), (h, .inr (kk + 3, .int (nI kd) :: .int (nI n) :: .int (nI w) :: .int (nI ns) :: .int (nI hn) :: .int (nI hq) :: xt kk a b z))] := hD
    subst hw_20
    refine y_eq (tgt := 30) hx hb d_Wa_wordsFrom_23 (by decide) (fun c_23 => ?_) (fun c_23 => ?_)
    · refine lv_iconst (v := (nI 0)) hx hb d_Wa_wordsFrom_30 (by decide) ?_
      exact ret_i C0 hr hlk hAe hS (kp, wd, ks) (by first | exact ⟨by show _ = nI (if _ then _ else _); rw [c_23]; rfl, kpK_0, hme, hks⟩) (hP.sub [5, 0, 1, 2, 3, 4] rfl) (hD.sub [5, 0, 1, 2, 3, 4] (by decide) rfl) rfl (Nat.le_of_ble_eq_true rfl) (Nat.le_of_ble_eq_true rfl) d_Wa_wordsFrom_31
    · refine lv_iconst (v := (nI 1)) hx hb d_Wa_wordsFrom_26 (by decide) ?_
      refine lv_goto (tgt := 31) hx hb d_Wa_wordsFrom_27 (by decide) ?_
      exact ret_i C0 hr hlk hAe hS (kp, wd, ks) (by first | exact ⟨by show _ = nI (if _ then _ else _); rw [c_23]; rfl, kpK_0, hme, hks⟩) (hP.sub [5, 0, 1, 2, 3, 4] rfl) (hD.sub [5, 0, 1, 2, 3, 4] (by decide) rfl) rfl (Nat.le_of_ble_eq_true rfl) (Nat.le_of_ble_eq_true rfl) d_Wa_wordsFrom_31
  · exact absurd c_9 (by omega)
set_option maxHeartbeats 4000000 in
set_option maxRecDepth 100000 in
theorem wf_s (l : Launch) (D : va_G) (cI : ClassId) (sz : Nat) (d : Nat) (h : Nat) (kk : Nat) (kd : Nat) (n : Nat) (w : Nat) (ns : Nat) (hn : Nat) (hq : Nat) (a : Nat) (b : Nat) (z : Nat) (hp : Nat) (po : Nat) (pk : Nat) (pa : Nat) (pb : Nat) (pw : Nat) (ps : Nat) (tm : Nat) (op : Nat → Nat) (kp : Nat → Nat) (wd : Nat → Nat) (ks : Nat → Nat) (k : Nat) (x : Nat) (ihr : ∀ (sz : Nat) (h : Nat) (kk : Nat) (kd : Nat) (n : Nat) (w : Nat) (ns : Nat) (hn : Nat) (hq : Nat) (a : Nat) (b : Nat) (z : Nat) (hp : Nat) (po : Nat) (pk : Nat) (pa : Nat) (pb : Nat) (pw : Nat) (ps : Nat) (tm : Nat) (op : Nat → Nat) (kp : Nat → Nat) (wd : Nat → Nat) (ks : Nat → Nat) (k : Nat) (x : Nat) (hok : okc kk n a b z) (hxo : xok kk k x) (hkd : k + d = n) (htm : tm < 2147483648) (hks : ∀ j, ks j ≤ tm) (hop : ∀ j, op j < 64) (hme : memo op kk n a b z tm wd ks kp), MetI l y_Wa_wordsFrom b_Wa_wordsFrom 9 (some .int) { frames := 3 + d, cells := 0, slots := 0, locals := 100 + 60 * d } D cI [] sz [(h, .inr (kk + 3, .int (nI kd) :: .int (nI n) :: .int (nI w) :: .int (nI ns) :: .int (nI hn) :: .int (nI hq) :: xt kk a b z)), (hp, .inr (2, [.ref po, .ref pk, .ref pa, .ref pb, .ref pw, .ref ps, .int (nI tm)])), (po, .inl (cI, 6, .inl (nA op))), (pk, .inl (cI, 6, .inl (nA kp))), (pw, .inl (cI, 384, .inl (nA wd))), (ps, .inl (cI, 384, .inl (nA ks)))] [.ref h, .int (nI k), .int (nI x), .ref hp] (fun (r : Int32) (u : (Nat → Nat) × (Nat → Nat) × (Nat → Nat)) => r = nI (wcnt op kk n a b z d k x) ∧ u.1 = kpK kp (kmk op kk n a b z d k x) ∧ memo op kk n a b z tm u.2.1 u.2.2 u.1 ∧ ∀ j, u.2.2 j ≤ tm) (fun u : (Nat → Nat) × (Nat → Nat) × (Nat → Nat) => [(h, .inr (kk + 3, .int (nI kd) :: .int (nI n) :: .int (nI w) :: .int (nI ns) :: .int (nI hn) :: .int (nI hq) :: xt kk a b z)), (hp, .inr (2, [.ref po, .ref pk, .ref pa, .ref pb, .ref pw, .ref ps, .int (nI tm)])), (po, .inl (cI, 6, .inl (nA op))), (pk, .inl (cI, 6, .inl (nA u.1))), (pw, .inl (cI, 384, .inl (nA u.2.1))), (ps, .inl (cI, 384, .inl (nA u.2.2)))])) (hok : okc kk n a b z) (hxo : xok kk k x) (hkd : k + (d + 1) = n) (htm : tm < 2147483648) (hks : ∀ j, ks j ≤ tm) (hop : ∀ j, op j < 64) (hme : memo op kk n a b z tm wd ks kp) : MetI l y_Wa_wordsFrom b_Wa_wordsFrom 9 (some .int) { frames := 3 + (d + 1), cells := 0, slots := 0, locals := 100 + 60 * (d + 1) } D cI [] sz [(h, .inr (kk + 3, .int (nI kd) :: .int (nI n) :: .int (nI w) :: .int (nI ns) :: .int (nI hn) :: .int (nI hq) :: xt kk a b z)), (hp, .inr (2, [.ref po, .ref pk, .ref pa, .ref pb, .ref pw, .ref ps, .int (nI tm)])), (po, .inl (cI, 6, .inl (nA op))), (pk, .inl (cI, 6, .inl (nA kp))), (pw, .inl (cI, 384, .inl (nA wd))), (ps, .inl (cI, 384, .inl (nA ks)))] [.ref h, .int (nI k), .int (nI x), .ref hp] (fun (r : Int32) (u : (Nat → Nat) × (Nat → Nat) × (Nat → Nat)) => r = nI (wcnt op kk n a b z (d + 1) k x) ∧ u.1 = kpK kp (kmk op kk n a b z (d + 1) k x) ∧ memo op kk n a b z tm u.2.1 u.2.2 u.1 ∧ ∀ j, u.2.2 j ≤ tm) (fun u : (Nat → Nat) × (Nat → Nat) × (Nat → Nat) => [(h, .inr (kk + 3, .int (nI kd) :: .int (nI n) :: .int (nI w) :: .int (nI ns) :: .int (nI hn) :: .int (nI hq) :: xt kk a b z)), (hp, .inr (2, [.ref po, .ref pk, .ref pa, .ref pb, .ref pw, .ref ps, .int (nI tm)])), (po, .inl (cI, 6, .inl (nA op))), (pk, .inl (cI, 6, .inl (nA u.1))), (pw, .inl (cI, 384, .inl (nA u.2.1))), (ps, .inl (cI, 384, .inl (nA u.2.2)))]) := by
  refine enter (by decide) (Nat.le_of_ble_eq_true rfl) ?_
  intro p e s m below meth c A ls C0 hr hlk hnm hK hsz hA hAe hP hD hS hl
  have hx := C0.1
  have hb := C0.2.1
  have hl : lv_has ls 9 [(0, .ref h), (1, .int (nI k)), (2, .int (nI x)), (3, .ref hp)] := hl
  have hn6 := hok.2.1
  refine lv_iload_n hx hb d_Wa_wordsFrom_0 rfl (lv_at hl 1 rfl) ?_
  refine z_lt (tgt := 18) hx hb (by omega) d_Wa_wordsFrom_1 (by decide) ?_
  refine lv_iload_n hx hb d_Wa_wordsFrom_4 rfl (lv_at hl 1 rfl) ?_
  refine lv_aload_n hx hb d_Wa_wordsFrom_5 rfl (lv_at hl 0 rfl) ?_
  refine r_getC C0 hK hP 0 rfl (okc_ci hok) 1 (by decide) wt_176 (fun x h => u_same (C0.2.2.2.2 _ wt_177) x h) rfl d_Wa_wordsFrom_6 ?_
  refine b_ge (tgt := 18) hx hb (by have := hok.2.1; omega) (by have := hok.2.1; omega) d_Wa_wordsFrom_9 (by decide) (fun c_9 => ?_) (fun c_9 => ?_)
  · exact absurd c_9 (by omega)
  · refine lv_iload_n hx hb d_Wa_wordsFrom_12 rfl (lv_at hl 1 rfl) ?_
    refine lv_bipush (v := (nI 6)) hx hb d_Wa_wordsFrom_13 (by decide) ?_
    refine b_lt (tgt := 32) hx hb (by have := hok.2.1; omega) (by decide) d_Wa_wordsFrom_15 (by decide) (fun c_15 => ?_) (fun c_15 => ?_)
    · refine lv_aload_n hx hb d_Wa_wordsFrom_32 rfl (lv_at hl 3 rfl) ?_
      refine lv_iload_n hx hb d_Wa_wordsFrom_33 rfl (lv_at hl 1 rfl) ?_
      refine lv_iload_n hx hb d_Wa_wordsFrom_34 rfl (lv_at hl 2 rfl) ?_
      refine call_i (rm := { frames := 2, cells := 0, slots := 0, locals := 43 }) hS hP hD hA (spl_mk (wc := [(hp, .inr (2, [.ref po, .ref pk, .ref pa, .ref pb, .ref pw, .ref ps, .int (nI tm)])), (pw, .inl (cI, 384, .inl (nA wd))), (ps, .inl (cI, 384, .inl (nA ks)))]) (wr := [(h, .inr (kk + 3, .int (nI kd) :: .int (nI n) :: .int (nI w) :: .int (nI ns) :: .int (nI hn) :: .int (nI hq) :: xt kk a b z)), (po, .inl (cI, 6, .inl (nA op))), (pk, .inl (cI, 6, .inl (nA kp)))]) [1, 4, 5] [0, 2, 3] rfl rfl (by decide)) (run_v (n := 2) (As := [.int (nI k), .int (nI x)]) (rest := []) (q0 := 0) (ci := 2) C0 (hK.sub [] rfl) (c_Pl_recall l D cI s.heap.size hp po pk pa pb pw ps tm wd ks k x c_15 (Nat.lt_trans hxo.1 (by decide)) htm (fun j => Nat.lt_of_le_of_lt (hks j) htm)) rfl rfl wt_454 wt_3 wt_451 wt_452 wt_453 (by decide +kernel) ⟨by simp only []; omega, by simp only []; omega⟩ rfl hl.1 rfl (Nat.le_of_ble_eq_true rfl) d_Wa_wordsFrom_35 ⟨Nat.le_refl _, Nat.le_refl _⟩) (fun r_35 _u35 H locs hw_35 hP hD hS => ?_)
      have hP : va_P D cls [(h, .inr (kk + 3, .int (nI kd) :: .int (nI n) :: .int (nI w) :: .int (nI ns) :: .int (nI hn) :: .int (nI hq) :: xt kk a b z)), (po, .inl (cI, 6, .inl (nA op))), (pk, .inl (cI, 6, .inl (nA kp))), (hp, .inr (2, [.ref po, .ref pk, .ref pa, .ref pb, .ref pw, .ref ps, .int (nI tm)])), (pw, .inl (cI, 384, .inl (nA wd))), (ps, .inl (cI, 384, .inl (nA ks)))] H := hP
      have hD : va_D A [(h, .inr (kk + 3, .int (nI kd) :: .int (nI n) :: .int (nI w) :: .int (nI ns) :: .int (nI hn) :: .int (nI hq) :: xt kk a b z)), (po, .inl (cI, 6, .inl (nA op))), (pk, .inl (cI, 6, .inl (nA kp))), (hp, .inr (2, [.ref po, .ref pk, .ref pa, .ref pb, .ref pw, .ref ps, .int (nI tm)])), (pw, .inl (cI, 384, .inl (nA wd))), (ps, .inl (cI, 384, .inl (nA ks)))] := hD
      rcases hw_35 with hw_35 | hw_35
      · have hz_38 : r_35 = nI (wcnt op kk n a b z (d + 1) k x) := by rw [hw_35.2, (hme k x (by omega) hw_35.1.1 hw_35.1.2).1, show n - k = d + 1 by omega]
        subst hz_38
        refine lv_istore (lv' := [(4, .int (nI (wcnt op kk n a b z (d + 1) k x))), (0, .ref h), (1, .int (nI k)), (2, .int (nI x)), (3, .ref hp)]) hx hb d_Wa_wordsFrom_38 hl (by decide) rfl (fun ls hl => ?_)
        refine lv_iload hx hb d_Wa_wordsFrom_40 (lv_at hl 0 rfl) ?_
        refine lv_iconst (v := (-1)) hx hb d_Wa_wordsFrom_42 (by decide) ?_
        refine lv_icmp_eq (tgt := 49) hx hb d_Wa_wordsFrom_43 (by decide) (fun c_43 => ?_) (fun c_43 => ?_)
        · exact absurd c_43 (m1_ne (wcnt_lt (by have := hok.2.1; omega)))
        · refine lv_iload hx hb d_Wa_wordsFrom_46 (lv_at hl 0 rfl) ?_
          exact ret_i C0 hr hlk hAe hS (kp, wd, ks) (⟨rfl, kpK_in (fun j => by have q := (hme k x (by omega) hw_35.1.1 hw_35.1.2).2 j; rw [show n - k = d + 1 by omega] at q; exact q), hme, hks⟩) (hP.sub [0, 3, 1, 2, 4, 5] rfl) (hD.sub [0, 3, 1, 2, 4, 5] (by decide) rfl) rfl (Nat.le_of_ble_eq_true rfl) (Nat.le_of_ble_eq_true rfl) d_Wa_wordsFrom_48
      · obtain ⟨-, rfl⟩ := hw_35
        refine lv_istore (lv' := [(4, .int (-1)), (0, .ref h), (1, .int (nI k)), (2, .int (nI x)), (3, .ref hp)]) hx hb d_Wa_wordsFrom_38 hl (by decide) rfl (fun ls hl => ?_)
        refine lv_iload hx hb d_Wa_wordsFrom_40 (lv_at hl 0 rfl) ?_
        refine lv_iconst (v := (-1)) hx hb d_Wa_wordsFrom_42 (by decide) ?_
        refine lv_icmp_eq (tgt := 49) hx hb d_Wa_wordsFrom_43 (by decide) (fun c_43 => ?_) (fun c_43 => ?_)
        · refine lv_iconst (v := (nI 0)) hx hb d_Wa_wordsFrom_49 (by decide) ?_
          refine lv_istore (lv' := [(5, .int (nI 0)), (4, .int (-1)), (0, .ref h), (1, .int (nI k)), (2, .int (nI x)), (3, .ref hp)]) hx hb d_Wa_wordsFrom_50 hl (by decide) rfl (fun ls hl => ?_)
          refine lv_iconst (v := (nI 0)) hx hb d_Wa_wordsFrom_52 (by decide) ?_
          refine lv_istore (lv' := [(6, .int (nI 0)), (5, .int (nI 0)), (4, .int (-1)), (0, .ref h), (1, .int (nI k)), (2, .int (nI x)), (3, .ref hp)]) hx hb d_Wa_wordsFrom_53 hl (by decide) rfl (fun ls hl => ?_)
          have hP : va_P D cls [(h, .inr (kk + 3, .int (nI kd) :: .int (nI n) :: .int (nI w) :: .int (nI ns) :: .int (nI hn) :: .int (nI hq) :: xt kk a b z)), (hp, .inr (2, [.ref po, .ref pk, .ref pa, .ref pb, .ref pw, .ref ps, .int (nI tm)])), (po, .inl (cI, 6, .inl (nA op))), (pk, .inl (cI, 6, .inl (nA kp))), (pw, .inl (cI, 384, .inl (nA wd))), (ps, .inl (cI, 384, .inl (nA ks)))] H := hP.sub [0, 3, 1, 2, 4, 5] rfl
          have hD : va_D A [(h, .inr (kk + 3, .int (nI kd) :: .int (nI n) :: .int (nI w) :: .int (nI ns) :: .int (nI hn) :: .int (nI hq) :: xt kk a b z)), (hp, .inr (2, [.ref po, .ref pk, .ref pa, .ref pb, .ref pw, .ref ps, .int (nI tm)])), (po, .inl (cI, 6, .inl (nA op))), (pk, .inl (cI, 6, .inl (nA kp))), (pw, .inl (cI, 384, .inl (nA wd))), (ps, .inl (cI, 384, .inl (nA ks)))] := hD.sub [0, 3, 1, 2, 4, 5] (by decide) rfl
          have hl : lv_has ls 9 [(6, .int (nI 0)), (5, .int (nI (sm (cnV op kk n a b z d k x) 0))), (4, .int (-1)), (0, .ref h), (1, .int (nI k)), (2, .int (nI x)), (3, .ref hp)] := by rw [show sm (cnV op kk n a b z d k x) 0 = 0 from rfl]; exact hl
          rw [show kp = kpI kp (cbV op kk n a b z d k x) 0 from kpI_0.symm] at hP hD
          have L55 : ∀ (fuel55 : Nat) (i : Nat) (wd1 : Nat → Nat) (ks1 : Nat → Nat), (i ≤ 6) → (6 < i + fuel55) → (memo op kk n a b z tm wd1 ks1 (kpI kp (cbV op kk n a b z d k x) i)) → (∀ j, ks1 j ≤ tm) → ∀ (H : Heap) (locs : List Loc) (ls : Array Slot), va_P D cls [(h, .inr (kk + 3, .int (nI kd) :: .int (nI n) :: .int (nI w) :: .int (nI ns) :: .int (nI hn) :: .int (nI hq) :: xt kk a b z)), (hp, .inr (2, [.ref po, .ref pk, .ref pa, .ref pb, .ref pw, .ref ps, .int (nI tm)])), (po, .inl (cI, 6, .inl (nA op))), (pk, .inl (cI, 6, .inl (nA (kpI kp (cbV op kk n a b z d k x) i)))), (pw, .inl (cI, 384, .inl (nA wd1))), (ps, .inl (cI, 384, .inl (nA ks1)))] H → va_D A [(h, .inr (kk + 3, .int (nI kd) :: .int (nI n) :: .int (nI w) :: .int (nI ns) :: .int (nI hn) :: .int (nI hq) :: xt kk a b z)), (hp, .inr (2, [.ref po, .ref pk, .ref pa, .ref pb, .ref pw, .ref ps, .int (nI tm)])), (po, .inl (cI, 6, .inl (nA op))), (pk, .inl (cI, 6, .inl (nA (kpI kp (cbV op kk n a b z d k x) i)))), (pw, .inl (cI, 384, .inl (nA wd1))), (ps, .inl (cI, 384, .inl (nA ks1)))] → va_S A s.heap H locs → lv_has ls 9 [(6, .int (nI i)), (5, .int (nI (sm (cnV op kk n a b z d k x) i))), (0, .ref h), (1, .int (nI k)), (2, .int (nI x)), (3, .ref hp)] → W p l e { frames := 3 + (d + 1), cells := 0, slots := 0, locals := 100 + 60 * (d + 1) } s m ([.ref h, .int (nI k), .int (nI x), .ref hp] : List Value).toArray below meth c H locs 0 0 (MQ below (pstI D [(h, .inr (kk + 3, .int (nI kd) :: .int (nI n) :: .int (nI w) :: .int (nI ns) :: .int (nI hn) :: .int (nI hq) :: xt kk a b z)), (hp, .inr (2, [.ref po, .ref pk, .ref pa, .ref pb, .ref pw, .ref ps, .int (nI tm)])), (po, .inl (cI, 6, .inl (nA op))), (pk, .inl (cI, 6, .inl (nA kp))), (pw, .inl (cI, 384, .inl (nA wd))), (ps, .inl (cI, 384, .inl (nA ks)))] sz (fun (r : Int32) (u : (Nat → Nat) × (Nat → Nat) × (Nat → Nat)) => r = nI (wcnt op kk n a b z (d + 1) k x) ∧ u.1 = kpK kp (kmk op kk n a b z (d + 1) k x) ∧ memo op kk n a b z tm u.2.1 u.2.2 u.1 ∧ ∀ j, u.2.2 j ≤ tm) (fun u : (Nat → Nat) × (Nat → Nat) × (Nat → Nat) => [(h, .inr (kk + 3, .int (nI kd) :: .int (nI n) :: .int (nI w) :: .int (nI ns) :: .int (nI hn) :: .int (nI hq) :: xt kk a b z)), (hp, .inr (2, [.ref po, .ref pk, .ref pa, .ref pb, .ref pw, .ref ps, .int (nI tm)])), (po, .inl (cI, 6, .inl (nA op))), (pk, .inl (cI, 6, .inl (nA u.1))), (pw, .inl (cI, 384, .inl (nA u.2.1))), (ps, .inl (cI, 384, .inl (nA u.2.2)))])) ([.ref h, .int (nI k), .int (nI x), .ref hp] : List Value).toArray s 0 0 A) (F0 m 55 ls []) := by
            intro fuel55
            induction fuel55 with
            | zero => intros; omega
            | succ fuel55 ih55 =>
              intro i wd1 ks1 hi hfu hm1 hk1 H locs ls hP hD hS hl
              have hn6 := hok.2.1.2
              refine lv_iload hx hb d_Wa_wordsFrom_55 (lv_at hl 0 rfl) ?_
              refine lv_bipush (v := (nI 6)) hx hb d_Wa_wordsFrom_57 (by decide) ?_
              refine b_ge (tgt := 143) hx hb (by omega) (by decide) d_Wa_wordsFrom_59 (by decide) (fun c_59 => ?_) (fun c_59 => ?_)
              · obtain rfl : i = 6 := (by omega)
                refine lv_aload_n hx hb d_Wa_wordsFrom_143 rfl (lv_at hl 5 rfl) ?_
                refine lv_iload_n hx hb d_Wa_wordsFrom_144 rfl (lv_at hl 3 rfl) ?_
                refine lv_iload_n hx hb d_Wa_wordsFrom_145 rfl (lv_at hl 4 rfl) ?_
                refine lv_iload hx hb d_Wa_wordsFrom_146 (lv_at hl 1 rfl) ?_
                refine call_v (rm := { frames := 2, cells := 0, slots := 0, locals := 43 }) hS hP hD hA (spl_mk (wc := [(hp, .inr (2, [.ref po, .ref pk, .ref pa, .ref pb, .ref pw, .ref ps, .int (nI tm)])), (pw, .inl (cI, 384, .inl (nA wd1))), (ps, .inl (cI, 384, .inl (nA ks1)))]) (wr := [(h, .inr (kk + 3, .int (nI kd) :: .int (nI n) :: .int (nI w) :: .int (nI ns) :: .int (nI hn) :: .int (nI hq) :: xt kk a b z)), (po, .inl (cI, 6, .inl (nA op))), (pk, .inl (cI, 6, .inl (nA (kpI kp (cbV op kk n a b z d k x) 6))))]) [1, 4, 5] [0, 2, 3] rfl rfl (by decide)) (run_v (n := 3) (As := [.int (nI k), .int (nI x), .int (nI (sm (cnV op kk n a b z d k x) 6))]) (rest := []) (q0 := 0) (ci := 2) C0 (hK.sub [] rfl) (c_Pl_remember l D cI H.size hp po pk pa pb pw ps tm wd1 ks1 k x (sm (cnV op kk n a b z d k x) 6) (by omega) (Nat.lt_trans hxo.1 (by decide))) rfl rfl wt_483 wt_3 wt_480 wt_481 wt_482 (by decide +kernel) ⟨by simp only []; omega, by simp only []; omega⟩ rfl hl.1 rfl (Nat.le_of_ble_eq_true rfl) d_Wa_wordsFrom_148 ⟨Nat.le_refl _, Nat.le_refl _⟩) (fun u_148 H locs hw_148 hP hD hS => ?_)
                have hP : va_P D cls [(h, .inr (kk + 3, .int (nI kd) :: .int (nI n) :: .int (nI w) :: .int (nI ns) :: .int (nI hn) :: .int (nI hq) :: xt kk a b z)), (po, .inl (cI, 6, .inl (nA op))), (pk, .inl (cI, 6, .inl (nA (kpI kp (cbV op kk n a b z d k x) 6)))), (hp, .inr (2, [.ref po, .ref pk, .ref pa, .ref pb, .ref pw, .ref ps, .int (nI tm)])), (pw, .inl (cI, 384, .inl (nA u_148.1))), (ps, .inl (cI, 384, .inl (nA u_148.2)))] H := hP
                have hD : va_D A [(h, .inr (kk + 3, .int (nI kd) :: .int (nI n) :: .int (nI w) :: .int (nI ns) :: .int (nI hn) :: .int (nI hq) :: xt kk a b z)), (po, .inl (cI, 6, .inl (nA op))), (pk, .inl (cI, 6, .inl (nA (kpI kp (cbV op kk n a b z d k x) 6)))), (hp, .inr (2, [.ref po, .ref pk, .ref pa, .ref pb, .ref pw, .ref ps, .int (nI tm)])), (pw, .inl (cI, 384, .inl (nA u_148.1))), (ps, .inl (cI, 384, .inl (nA u_148.2)))] := hD
                refine lv_iload hx hb d_Wa_wordsFrom_151 (lv_at hl 1 rfl) ?_
                have hpo1 : memo op kk n a b z tm u_148.1 u_148.2 (kpI kp (cbV op kk n a b z d k x) 6) := by
                  have q := memo_put (x := x) (show k < n by omega) hm1 (by rw [show n - k = d + 1 by omega]; exact fun j => or_self2 _ _)
                  rw [show n - k = d + 1 by omega] at q
                  rw [hw_148]; exact q
                have hpo2 : ∀ j, u_148.2 j ≤ tm := by
                  rw [hw_148]; split
                  · exact up_le hk1 (Nat.le_refl _)
                  · exact hk1
                exact ret_i C0 hr hlk hAe hS (kpI kp (cbV op kk n a b z d k x) 6, u_148.1, u_148.2) (⟨rfl, rfl, hpo1, hpo2⟩) (hP.sub [0, 3, 1, 2, 4, 5] rfl) (hD.sub [0, 3, 1, 2, 4, 5] (by decide) rfl) rfl (Nat.le_of_ble_eq_true rfl) (Nat.le_of_ble_eq_true rfl) d_Wa_wordsFrom_153
              · refine lv_aload_n hx hb d_Wa_wordsFrom_62 rfl (lv_at hl 5 rfl) ?_
                refine r_get C0 hK hP 1 rfl rfl i_Pl 0 (by decide) wt_58 (fun _ h => h) rfl d_Wa_wordsFrom_63 ?_
                refine lv_iload_n hx hb d_Wa_wordsFrom_66 rfl (lv_at hl 3 rfl) ?_
                refine r_ald C0 hK hP 2 rfl (by omega) (by decide) d_Wa_wordsFrom_67 ?_
                refine t_eq (y := (nI (op k))) rfl ?_
                refine lv_iload hx hb d_Wa_wordsFrom_68 (lv_at hl 0 rfl) ?_
                refine call_i (rm := { frames := 0, cells := 0, slots := 0, locals := 0 }) hS hP hD hA (spl_mk (wc := []) (wr := [(h, .inr (kk + 3, .int (nI kd) :: .int (nI n) :: .int (nI w) :: .int (nI ns) :: .int (nI hn) :: .int (nI hq) :: xt kk a b z)), (hp, .inr (2, [.ref po, .ref pk, .ref pa, .ref pb, .ref pw, .ref ps, .int (nI tm)])), (po, .inl (cI, 6, .inl (nA op))), (pk, .inl (cI, 6, .inl (nA (kpI kp (cbV op kk n a b z d k x) i)))), (pw, .inl (cI, 384, .inl (nA wd1))), (ps, .inl (cI, 384, .inl (nA ks1)))]) [] [0, 1, 2, 3, 4, 5] rfl rfl (by decide)) (run_sN (n := 2) (As := [.int (nI (op k)), .int (nI i)]) (rest := []) C0 (hK.sub [] rfl) (c_TC_has l D cI H.size (op k) i (Nat.lt_trans (hop k) (by decide)) (by omega)) wt_147 wt_1 wn_459 wt_146 (by decide +kernel) ⟨by simp only []; omega, by simp only []; omega⟩ rfl hl.1 rfl (Nat.le_of_ble_eq_true rfl) d_Wa_wordsFrom_70 ⟨Nat.le_refl _, Nat.le_refl _⟩) (fun r_70 _u70 H locs hw_70 hP hD hS => ?_)
                have hP : va_P D cls [(h, .inr (kk + 3, .int (nI kd) :: .int (nI n) :: .int (nI w) :: .int (nI ns) :: .int (nI hn) :: .int (nI hq) :: xt kk a b z)), (hp, .inr (2, [.ref po, .ref pk, .ref pa, .ref pb, .ref pw, .ref ps, .int (nI tm)])), (po, .inl (cI, 6, .inl (nA op))), (pk, .inl (cI, 6, .inl (nA (kpI kp (cbV op kk n a b z d k x) i)))), (pw, .inl (cI, 384, .inl (nA wd1))), (ps, .inl (cI, 384, .inl (nA ks1)))] H := hP
                have hD : va_D A [(h, .inr (kk + 3, .int (nI kd) :: .int (nI n) :: .int (nI w) :: .int (nI ns) :: .int (nI hn) :: .int (nI hq) :: xt kk a b z)), (hp, .inr (2, [.ref po, .ref pk, .ref pa, .ref pb, .ref pw, .ref ps, .int (nI tm)])), (po, .inl (cI, 6, .inl (nA op))), (pk, .inl (cI, 6, .inl (nA (kpI kp (cbV op kk n a b z d k x) i)))), (pw, .inl (cI, 384, .inl (nA wd1))), (ps, .inl (cI, 384, .inl (nA ks1)))] := hD
                subst hw_70
                refine y_eq (tgt := 87) hx hb d_Wa_wordsFrom_73 (by decide) (fun c_73 => ?_) (fun c_73 => ?_)
                · have hnv : nodeV op kk n a b z k x i = none := by unfold nodeV; rw [if_neg (by rw [c_73]; decide)]
                  refine lv_iconst (v := (-1)) hx hb d_Wa_wordsFrom_87 (by decide) ?_
                  refine lv_istore (lv' := [(7, .int (-1)), (6, .int (nI i)), (5, .int (nI (sm (cnV op kk n a b z d k x) i))), (0, .ref h), (1, .int (nI k)), (2, .int (nI x)), (3, .ref hp)]) hx hb d_Wa_wordsFrom_88 hl (by decide) rfl (fun ls hl => ?_)
                  refine lv_iload hx hb d_Wa_wordsFrom_90 (lv_at hl 0 rfl) ?_
                  refine lv_iconst (v := (-1)) hx hb d_Wa_wordsFrom_92 (by decide) ?_
                  refine lv_icmp_ne (tgt := 100) hx hb d_Wa_wordsFrom_93 (by decide) (fun c_93 => ?_) (fun c_93 => ?_)
                  · exact absurd rfl c_93
                  · refine lv_iconst (v := (nI 0)) hx hb d_Wa_wordsFrom_96 (by decide) ?_
                    refine lv_goto (tgt := 110) hx hb d_Wa_wordsFrom_97 (by decide) ?_
                    refine lv_istore (lv' := [(8, .int (nI 0)), (7, .int (-1)), (6, .int (nI i)), (5, .int (nI (sm (cnV op kk n a b z d k x) i))), (0, .ref h), (1, .int (nI k)), (2, .int (nI x)), (3, .ref hp)]) hx hb d_Wa_wordsFrom_110 hl (by decide) rfl (fun ls hl => ?_)
                    refine lv_iload hx hb d_Wa_wordsFrom_112 (lv_at hl 0 rfl) ?_
                    refine z_le (tgt := 137) hx hb (by decide) d_Wa_wordsFrom_114 (by decide) (fun c_114 => ?_) (fun c_114 => ?_)
                    · have hl : lv_has ls 9 [(8, .int (nI 0)), (7, .int (-1)), (6, .int (nI i)), (5, .int (nI (sm (cnV op kk n a b z d k x) (i + 1)))), (0, .ref h), (1, .int (nI k)), (2, .int (nI x)), (3, .ref hp)] := by rw [show sm (cnV op kk n a b z d k x) (i + 1) = sm (cnV op kk n a b z d k x) i from (sm_none hnv)]; exact hl
                      rw [show (kpI kp (cbV op kk n a b z d k x) i) = kpI kp (cbV op kk n a b z d k x) (i + 1) from kpI_none hnv] at hP hD
                      have hm2 : memo op kk n a b z tm wd1 ks1 (kpI kp (cbV op kk n a b z d k x) (i + 1)) := (kpI_none hnv (kp := kp) (d := d)) ▸ hm1
                      have hk2 := hk1
                      refine lv_iinc (v := (nI (i + 1))) (lv' := [(6, .int (nI (i + 1))), (8, .int (nI 0)), (7, .int (-1)), (5, .int (nI (sm (cnV op kk n a b z d k x) (i + 1)))), (0, .ref h), (1, .int (nI k)), (2, .int (nI x)), (3, .ref hp)]) hx hb d_Wa_wordsFrom_137 hl (k := 2) rfl (by exact nI_1 _) (by decide) rfl (fun ls hl => ?_)
                      refine lv_goto (tgt := 55) hx hb d_Wa_wordsFrom_140 (by decide) ?_
                      exact ih55 (i + 1) wd1 ks1 (by omega) (by omega) hm2 hk2 _ _ _ hP hD hS (lv_sub hl [0, 3, 4, 5, 6, 7] rfl)
                    · exact absurd c_114 (by omega)
                · refine lv_aload_n hx hb d_Wa_wordsFrom_76 rfl (lv_at hl 2 rfl) ?_
                  refine lv_iload_n hx hb d_Wa_wordsFrom_77 rfl (lv_at hl 4 rfl) ?_
                  refine lv_iload_n hx hb d_Wa_wordsFrom_78 rfl (lv_at hl 3 rfl) ?_
                  refine lv_iload hx hb d_Wa_wordsFrom_79 (lv_at hl 0 rfl) ?_
                  refine call_i (rm := { frames := 0, cells := 0, slots := 0, locals := 0 }) hS hP hD hA (spl_mk (wc := [(h, .inr (kk + 3, .int (nI kd) :: .int (nI n) :: .int (nI w) :: .int (nI ns) :: .int (nI hn) :: .int (nI hq) :: xt kk a b z))]) (wr := [(hp, .inr (2, [.ref po, .ref pk, .ref pa, .ref pb, .ref pw, .ref ps, .int (nI tm)])), (po, .inl (cI, 6, .inl (nA op))), (pk, .inl (cI, 6, .inl (nA (kpI kp (cbV op kk n a b z d k x) i)))), (pw, .inl (cI, 384, .inl (nA wd1))), (ps, .inl (cI, 384, .inl (nA ks1)))]) [0] [1, 2, 3, 4, 5] rfl rfl (by decide)) (run_after (rest := []) C0 hK hok hxo.1 (by have := hok.2.1; omega) (by omega) ⟨by simp only []; omega, by simp only []; omega⟩ hl.1 (Nat.le_of_ble_eq_true rfl) d_Wa_wordsFrom_81 ⟨Nat.le_refl _, Nat.le_refl _⟩) (fun r_81 _u81 H locs hw_81 hP hD hS => ?_)
                  have hP : va_P D cls [(hp, .inr (2, [.ref po, .ref pk, .ref pa, .ref pb, .ref pw, .ref ps, .int (nI tm)])), (po, .inl (cI, 6, .inl (nA op))), (pk, .inl (cI, 6, .inl (nA (kpI kp (cbV op kk n a b z d k x) i)))), (pw, .inl (cI, 384, .inl (nA wd1))), (ps, .inl (cI, 384, .inl (nA ks1))), (h, .inr (kk + 3, .int (nI kd) :: .int (nI n) :: .int (nI w) :: .int (nI ns) :: .int (nI hn) :: .int (nI hq) :: xt kk a b z))] H := hP
                  have hD : va_D A [(hp, .inr (2, [.ref po, .ref pk, .ref pa, .ref pb, .ref pw, .ref ps, .int (nI tm)])), (po, .inl (cI, 6, .inl (nA op))), (pk, .inl (cI, 6, .inl (nA (kpI kp (cbV op kk n a b z d k x) i)))), (pw, .inl (cI, 384, .inl (nA wd1))), (ps, .inl (cI, 384, .inl (nA ks1))), (h, .inr (kk + 3, .int (nI kd) :: .int (nI n) :: .int (nI w) :: .int (nI ns) :: .int (nI hn) :: .int (nI hq) :: xt kk a b z))] := hD
                  rcases haf : aft kk n a b z x k i with _ | y
                  · rw [haf] at hw_81
                    have hw_81 : r_81 = -1 := hw_81
                    subst hw_81
                    have hnv : nodeV op kk n a b z k x i = none := by unfold nodeV; rw [if_pos c_73]; exact haf
                    refine lv_goto (tgt := 88) hx hb d_Wa_wordsFrom_84 (by decide) ?_
                    refine lv_istore (lv' := [(7, .int (-1)), (6, .int (nI i)), (5, .int (nI (sm (cnV op kk n a b z d k x) i))), (0, .ref h), (1, .int (nI k)), (2, .int (nI x)), (3, .ref hp)]) hx hb d_Wa_wordsFrom_88 hl (by decide) rfl (fun ls hl => ?_)
                    refine lv_iload hx hb d_Wa_wordsFrom_90 (lv_at hl 0 rfl) ?_
                    refine lv_iconst (v := (-1)) hx hb d_Wa_wordsFrom_92 (by decide) ?_
                    refine lv_icmp_ne (tgt := 100) hx hb d_Wa_wordsFrom_93 (by decide) (fun c_93 => ?_) (fun c_93 => ?_)
                    · exact absurd rfl c_93
                    · refine lv_iconst (v := (nI 0)) hx hb d_Wa_wordsFrom_96 (by decide) ?_
                      refine lv_goto (tgt := 110) hx hb d_Wa_wordsFrom_97 (by decide) ?_
                      refine lv_istore (lv' := [(8, .int (nI 0)), (7, .int (-1)), (6, .int (nI i)), (5, .int (nI (sm (cnV op kk n a b z d k x) i))), (0, .ref h), (1, .int (nI k)), (2, .int (nI x)), (3, .ref hp)]) hx hb d_Wa_wordsFrom_110 hl (by decide) rfl (fun ls hl => ?_)
                      refine lv_iload hx hb d_Wa_wordsFrom_112 (lv_at hl 0 rfl) ?_
                      refine z_le (tgt := 137) hx hb (by decide) d_Wa_wordsFrom_114 (by decide) (fun c_114 => ?_) (fun c_114 => ?_)
                      · have hl : lv_has ls 9 [(8, .int (nI 0)), (7, .int (-1)), (6, .int (nI i)), (5, .int (nI (sm (cnV op kk n a b z d k x) (i + 1)))), (0, .ref h), (1, .int (nI k)), (2, .int (nI x)), (3, .ref hp)] := by rw [show sm (cnV op kk n a b z d k x) (i + 1) = sm (cnV op kk n a b z d k x) i from (sm_none hnv)]; exact hl
                        rw [show (kpI kp (cbV op kk n a b z d k x) i) = kpI kp (cbV op kk n a b z d k x) (i + 1) from kpI_none hnv] at hP hD
                        have hm2 : memo op kk n a b z tm wd1 ks1 (kpI kp (cbV op kk n a b z d k x) (i + 1)) := (kpI_none hnv (kp := kp) (d := d)) ▸ hm1
                        have hk2 := hk1
                        have hP : va_P D cls [(h, .inr (kk + 3, .int (nI kd) :: .int (nI n) :: .int (nI w) :: .int (nI ns) :: .int (nI hn) :: .int (nI hq) :: xt kk a b z)), (hp, .inr (2, [.ref po, .ref pk, .ref pa, .ref pb, .ref pw, .ref ps, .int (nI tm)])), (po, .inl (cI, 6, .inl (nA op))), (pk, .inl (cI, 6, .inl (nA (kpI kp (cbV op kk n a b z d k x) (i + 1))))), (pw, .inl (cI, 384, .inl (nA wd1))), (ps, .inl (cI, 384, .inl (nA ks1)))] H := hP.sub [5, 0, 1, 2, 3, 4] rfl
                        have hD : va_D A [(h, .inr (kk + 3, .int (nI kd) :: .int (nI n) :: .int (nI w) :: .int (nI ns) :: .int (nI hn) :: .int (nI hq) :: xt kk a b z)), (hp, .inr (2, [.ref po, .ref pk, .ref pa, .ref pb, .ref pw, .ref ps, .int (nI tm)])), (po, .inl (cI, 6, .inl (nA op))), (pk, .inl (cI, 6, .inl (nA (kpI kp (cbV op kk n a b z d k x) (i + 1))))), (pw, .inl (cI, 384, .inl (nA wd1))), (ps, .inl (cI, 384, .inl (nA ks1)))] := hD.sub [5, 0, 1, 2, 3, 4] (by decide) rfl
                        refine lv_iinc (v := (nI (i + 1))) (lv' := [(6, .int (nI (i + 1))), (8, .int (nI 0)), (7, .int (-1)), (5, .int (nI (sm (cnV op kk n a b z d k x) (i + 1)))), (0, .ref h), (1, .int (nI k)), (2, .int (nI x)), (3, .ref hp)]) hx hb d_Wa_wordsFrom_137 hl (k := 2) rfl (by exact nI_1 _) (by decide) rfl (fun ls hl => ?_)
                        refine lv_goto (tgt := 55) hx hb d_Wa_wordsFrom_140 (by decide) ?_
                        exact ih55 (i + 1) wd1 ks1 (by omega) (by omega) hm2 hk2 _ _ _ hP hD hS (lv_sub hl [0, 3, 4, 5, 6, 7] rfl)
                      · exact absurd c_114 (by omega)
                  · rw [haf] at hw_81
                    have hw_81 : r_81 = nI y := hw_81
                    subst hw_81
                    have hnv : nodeV op kk n a b z k x i = some y := by unfold nodeV; rw [if_pos c_73]; exact haf
                    have hyo : xok kk (k + 1) y := aft_ok hok hxo (by omega) (by omega) haf
                    have hy1 := hyo.1
                    refine lv_goto (tgt := 88) hx hb d_Wa_wordsFrom_84 (by decide) ?_
                    refine lv_istore (lv' := [(7, .int (nI y)), (6, .int (nI i)), (5, .int (nI (sm (cnV op kk n a b z d k x) i))), (0, .ref h), (1, .int (nI k)), (2, .int (nI x)), (3, .ref hp)]) hx hb d_Wa_wordsFrom_88 hl (by decide) rfl (fun ls hl => ?_)
                    refine lv_iload hx hb d_Wa_wordsFrom_90 (lv_at hl 0 rfl) ?_
                    refine lv_iconst (v := (-1)) hx hb d_Wa_wordsFrom_92 (by decide) ?_
                    refine lv_icmp_ne (tgt := 100) hx hb d_Wa_wordsFrom_93 (by decide) (fun c_93 => ?_) (fun c_93 => ?_)
                    · refine lv_aload_n hx hb d_Wa_wordsFrom_100 rfl (lv_at hl 3 rfl) ?_
                      refine lv_iload_n hx hb d_Wa_wordsFrom_101 rfl (lv_at hl 4 rfl) ?_
                      refine lv_iconst (v := (nI 1)) hx hb d_Wa_wordsFrom_102 (by decide) ?_
                      refine lv_iadd hx hb d_Wa_wordsFrom_103 ?_
                      refine t_eq (y := (nI (k + 1))) (nI_add _ _) ?_
                      refine lv_iload hx hb d_Wa_wordsFrom_104 (lv_at hl 0 rfl) ?_
                      refine lv_aload_n hx hb d_Wa_wordsFrom_106 rfl (lv_at hl 6 rfl) ?_
                      refine call_i (rm := { frames := 3 + d, cells := 0, slots := 0, locals := 100 + 60 * d }) hS hP hD hA (spl_mk (wc := [(h, .inr (kk + 3, .int (nI kd) :: .int (nI n) :: .int (nI w) :: .int (nI ns) :: .int (nI hn) :: .int (nI hq) :: xt kk a b z)), (hp, .inr (2, [.ref po, .ref pk, .ref pa, .ref pb, .ref pw, .ref ps, .int (nI tm)])), (po, .inl (cI, 6, .inl (nA op))), (pk, .inl (cI, 6, .inl (nA (kpI kp (cbV op kk n a b z d k x) i)))), (pw, .inl (cI, 384, .inl (nA wd1))), (ps, .inl (cI, 384, .inl (nA ks1)))]) (wr := []) [5, 0, 1, 2, 3, 4] [] rfl rfl (by decide)) (run_wordsFrom (As := [.int (nI (k + 1)), .int (nI y), .ref hp]) (rest := []) (q0 := 0) C0 hK (okc_kk hok) (ihr H.size h kk kd n w ns hn hq a b z hp po pk pa pb pw ps tm op (kpI kp (cbV op kk n a b z d k x) i) wd1 ks1 (k + 1) y hok hyo (by omega) htm hk1 hop hm1) rfl rfl ⟨by simp only []; omega, by simp only []; omega⟩ hl.1 rfl (Nat.le_of_ble_eq_true rfl) d_Wa_wordsFrom_107 ⟨Nat.le_refl _, Nat.le_refl _⟩) (fun r_107 u_107 H locs hw_107 hP hD hS => ?_)
                      have hP : va_P D cls [(h, .inr (kk + 3, .int (nI kd) :: .int (nI n) :: .int (nI w) :: .int (nI ns) :: .int (nI hn) :: .int (nI hq) :: xt kk a b z)), (hp, .inr (2, [.ref po, .ref pk, .ref pa, .ref pb, .ref pw, .ref ps, .int (nI tm)])), (po, .inl (cI, 6, .inl (nA op))), (pk, .inl (cI, 6, .inl (nA u_107.1))), (pw, .inl (cI, 384, .inl (nA u_107.2.1))), (ps, .inl (cI, 384, .inl (nA u_107.2.2)))] H := hP
                      have hD : va_D A [(h, .inr (kk + 3, .int (nI kd) :: .int (nI n) :: .int (nI w) :: .int (nI ns) :: .int (nI hn) :: .int (nI hq) :: xt kk a b z)), (hp, .inr (2, [.ref po, .ref pk, .ref pa, .ref pb, .ref pw, .ref ps, .int (nI tm)])), (po, .inl (cI, 6, .inl (nA op))), (pk, .inl (cI, 6, .inl (nA u_107.1))), (pw, .inl (cI, 384, .inl (nA u_107.2.1))), (ps, .inl (cI, 384, .inl (nA u_107.2.2)))] := hD
                      obtain ⟨hr107, hu107, hm107, hk107⟩ := hw_107
                      subst hr107
                      rw [hu107] at hP hD hm107
                      refine lv_istore (lv' := [(8, .int (nI (wcnt op kk n a b z d (k + 1) y))), (7, .int (nI y)), (6, .int (nI i)), (5, .int (nI (sm (cnV op kk n a b z d k x) i))), (0, .ref h), (1, .int (nI k)), (2, .int (nI x)), (3, .ref hp)]) hx hb d_Wa_wordsFrom_110 hl (by decide) rfl (fun ls hl => ?_)
                      have hwl : wcnt op kk n a b z d (k + 1) y < 2147483648 := wcnt_lt (by have := hok.2.1; omega)
                      refine lv_iload hx hb d_Wa_wordsFrom_112 (lv_at hl 0 rfl) ?_
                      refine z_le (tgt := 137) hx hb (by omega) d_Wa_wordsFrom_114 (by decide) (fun c_114 => ?_) (fun c_114 => ?_)
                      · have hl : lv_has ls 9 [(8, .int (nI (wcnt op kk n a b z d (k + 1) y))), (7, .int (nI y)), (6, .int (nI i)), (5, .int (nI (sm (cnV op kk n a b z d k x) (i + 1)))), (0, .ref h), (1, .int (nI k)), (2, .int (nI x)), (3, .ref hp)] := by rw [show sm (cnV op kk n a b z d k x) (i + 1) = sm (cnV op kk n a b z d k x) i from (by rw [sm_some hnv, c_114]; rfl)]; exact hl
                        rw [show (kpK (kpI kp (cbV op kk n a b z d k x) i) (kmk op kk n a b z d (k + 1) y)) = kpI kp (cbV op kk n a b z d k x) (i + 1) from kpI_s0 hnv c_114] at hP hD
                        have hm2 : memo op kk n a b z tm u_107.2.1 u_107.2.2 (kpI kp (cbV op kk n a b z d k x) (i + 1)) := memo_sup (kpI_sup hnv) hm107
                        have hk2 := hk107
                        refine lv_iinc (v := (nI (i + 1))) (lv' := [(6, .int (nI (i + 1))), (8, .int (nI (wcnt op kk n a b z d (k + 1) y))), (7, .int (nI y)), (5, .int (nI (sm (cnV op kk n a b z d k x) (i + 1)))), (0, .ref h), (1, .int (nI k)), (2, .int (nI x)), (3, .ref hp)]) hx hb d_Wa_wordsFrom_137 hl (k := 2) rfl (by exact nI_1 _) (by decide) rfl (fun ls hl => ?_)
                        refine lv_goto (tgt := 55) hx hb d_Wa_wordsFrom_140 (by decide) ?_
                        exact ih55 (i + 1) u_107.2.1 u_107.2.2 (by omega) (by omega) hm2 hk2 _ _ _ hP hD hS (lv_sub hl [0, 3, 4, 5, 6, 7] rfl)
                      · refine lv_aload_n hx hb d_Wa_wordsFrom_117 rfl (lv_at hl 7 rfl) ?_
                        refine r_get C0 hK hP 1 rfl rfl i_Pl 1 (by decide) wt_63 (fun _ h => h) rfl d_Wa_wordsFrom_118 ?_
                        refine lv_iload_n hx hb d_Wa_wordsFrom_121 rfl (lv_at hl 5 rfl) ?_
                        refine lv_dup2_11 hx hb d_Wa_wordsFrom_122 rfl rfl ?_
                        refine r_ald C0 hK hP 3 rfl (by omega) (by decide) d_Wa_wordsFrom_123 ?_
                        refine t_eq (y := (nI ((kpK (kpI kp (cbV op kk n a b z d k x) i) (kmk op kk n a b z d (k + 1) y)) k))) rfl ?_
                        refine lv_iconst (v := (nI 1)) hx hb d_Wa_wordsFrom_124 (by decide) ?_
                        refine lv_iload hx hb d_Wa_wordsFrom_125 (lv_at hl 2 rfl) ?_
                        refine lv_ishl hx hb d_Wa_wordsFrom_127 ?_
                        refine t_eq (y := (nI (1 * 2 ^ i))) (m_shl _ (by omega)) ?_
                        refine lv_ior hx hb d_Wa_wordsFrom_128 ?_
                        refine t_eq (y := (nI (((kpK (kpI kp (cbV op kk n a b z d k x) i) (kmk op kk n a b z d (k + 1) y)) k) ||| (1 * 2 ^ i)))) (m_or _ _) ?_
                        refine r_astN C0 hK hP hD hS 3 rfl (by omega) (by decide) d_Wa_wordsFrom_129 (fun H locs hP hD hS => ?_)
                        have hP : va_P D cls [(h, .inr (kk + 3, .int (nI kd) :: .int (nI n) :: .int (nI w) :: .int (nI ns) :: .int (nI hn) :: .int (nI hq) :: xt kk a b z)), (hp, .inr (2, [.ref po, .ref pk, .ref pa, .ref pb, .ref pw, .ref ps, .int (nI tm)])), (po, .inl (cI, 6, .inl (nA op))), (pk, .inl (cI, 6, .inl (nA (va_up (kpK (kpI kp (cbV op kk n a b z d k x) i) (kmk op kk n a b z d (k + 1) y)) k (((kpK (kpI kp (cbV op kk n a b z d k x) i) (kmk op kk n a b z d (k + 1) y)) k) ||| (1 * 2 ^ i)))))), (pw, .inl (cI, 384, .inl (nA u_107.2.1))), (ps, .inl (cI, 384, .inl (nA u_107.2.2)))] H := hP
                        have hD : va_D A [(h, .inr (kk + 3, .int (nI kd) :: .int (nI n) :: .int (nI w) :: .int (nI ns) :: .int (nI hn) :: .int (nI hq) :: xt kk a b z)), (hp, .inr (2, [.ref po, .ref pk, .ref pa, .ref pb, .ref pw, .ref ps, .int (nI tm)])), (po, .inl (cI, 6, .inl (nA op))), (pk, .inl (cI, 6, .inl (nA (va_up (kpK (kpI kp (cbV op kk n a b z d k x) i) (kmk op kk n a b z d (k + 1) y)) k (((kpK (kpI kp (cbV op kk n a b z d k x) i) (kmk op kk n a b z d (k + 1) y)) k) ||| (1 * 2 ^ i)))))), (pw, .inl (cI, 384, .inl (nA u_107.2.1))), (ps, .inl (cI, 384, .inl (nA u_107.2.2)))] := hD
                        refine lv_iload hx hb d_Wa_wordsFrom_130 (lv_at hl 3 rfl) ?_
                        refine lv_iload hx hb d_Wa_wordsFrom_132 (lv_at hl 0 rfl) ?_
                        refine lv_iadd hx hb d_Wa_wordsFrom_134 ?_
                        refine t_eq (y := (nI ((sm (cnV op kk n a b z d k x) i) + (wcnt op kk n a b z d (k + 1) y)))) (nI_add _ _) ?_
                        refine lv_istore (lv' := [(5, .int (nI ((sm (cnV op kk n a b z d k x) i) + (wcnt op kk n a b z d (k + 1) y)))), (8, .int (nI (wcnt op kk n a b z d (k + 1) y))), (7, .int (nI y)), (6, .int (nI i)), (0, .ref h), (1, .int (nI k)), (2, .int (nI x)), (3, .ref hp)]) hx hb d_Wa_wordsFrom_135 hl (by decide) rfl (fun ls hl => ?_)
                        have hl : lv_has ls 9 [(5, .int (nI (sm (cnV op kk n a b z d k x) (i + 1)))), (8, .int (nI (wcnt op kk n a b z d (k + 1) y))), (7, .int (nI y)), (6, .int (nI i)), (0, .ref h), (1, .int (nI k)), (2, .int (nI x)), (3, .ref hp)] := by rw [show sm (cnV op kk n a b z d k x) (i + 1) = (sm (cnV op kk n a b z d k x) i) + (wcnt op kk n a b z d (k + 1) y) from (sm_some hnv)]; exact hl
                        rw [show (va_up (kpK (kpI kp (cbV op kk n a b z d k x) i) (kmk op kk n a b z d (k + 1) y)) k (((kpK (kpI kp (cbV op kk n a b z d k x) i) (kmk op kk n a b z d (k + 1) y)) k) ||| (1 * 2 ^ i))) = kpI kp (cbV op kk n a b z d k x) (i + 1) from kpI_s1 hnv c_114] at hP hD
                        have hm2 : memo op kk n a b z tm u_107.2.1 u_107.2.2 (kpI kp (cbV op kk n a b z d k x) (i + 1)) := memo_sup (kpI_sup hnv) hm107
                        have hk2 := hk107
                        refine lv_iinc (v := (nI (i + 1))) (lv' := [(6, .int (nI (i + 1))), (5, .int (nI (sm (cnV op kk n a b z d k x) (i + 1)))), (8, .int (nI (wcnt op kk n a b z d (k + 1) y))), (7, .int (nI y)), (0, .ref h), (1, .int (nI k)), (2, .int (nI x)), (3, .ref hp)]) hx hb d_Wa_wordsFrom_137 hl (k := 3) rfl (by exact nI_1 _) (by decide) rfl (fun ls hl => ?_)
                        refine lv_goto (tgt := 55) hx hb d_Wa_wordsFrom_140 (by decide) ?_
                        exact ih55 (i + 1) u_107.2.1 u_107.2.2 (by omega) (by omega) hm2 hk2 _ _ _ hP hD hS (lv_sub hl [0, 1, 4, 5, 6, 7] rfl)
                    · exact absurd c_93 (m1_ne (by omega))
          exact L55 (7) 0 wd ks (by omega) (by omega) (kpI_0.symm ▸ hme) hks _ _ _ hP hD hS (lv_sub hl [0, 1, 3, 4, 5, 6] rfl)
        · exact absurd rfl c_43
    · exact absurd c_15 (by have := hok.2.1; omega)
theorem c_Wa_wordsFrom (l : Launch) (D : va_G) (cI : ClassId) (d : Nat) : ∀ (sz : Nat) (h : Nat) (kk : Nat) (kd : Nat) (n : Nat) (w : Nat) (ns : Nat) (hn : Nat) (hq : Nat) (a : Nat) (b : Nat) (z : Nat) (hp : Nat) (po : Nat) (pk : Nat) (pa : Nat) (pb : Nat) (pw : Nat) (ps : Nat) (tm : Nat) (op : Nat → Nat) (kp : Nat → Nat) (wd : Nat → Nat) (ks : Nat → Nat) (k : Nat) (x : Nat) (hok : okc kk n a b z) (hxo : xok kk k x) (hkd : k + d = n) (htm : tm < 2147483648) (hks : ∀ j, ks j ≤ tm) (hop : ∀ j, op j < 64) (hme : memo op kk n a b z tm wd ks kp), MetI l y_Wa_wordsFrom b_Wa_wordsFrom 9 (some .int) { frames := 3 + d, cells := 0, slots := 0, locals := 100 + 60 * d } D cI [] sz [(h, .inr (kk + 3, .int (nI kd) :: .int (nI n) :: .int (nI w) :: .int (nI ns) :: .int (nI hn) :: .int (nI hq) :: xt kk a b z)), (hp, .inr (2, [.ref po, .ref pk, .ref pa, .ref pb, .ref pw, .ref ps, .int (nI tm)])), (po, .inl (cI, 6, .inl (nA op))), (pk, .inl (cI, 6, .inl (nA kp))), (pw, .inl (cI, 384, .inl (nA wd))), (ps, .inl (cI, 384, .inl (nA ks)))] [.ref h, .int (nI k), .int (nI x), .ref hp] (fun (r : Int32) (u : (Nat → Nat) × (Nat → Nat) × (Nat → Nat)) => r = nI (wcnt op kk n a b z d k x) ∧ u.1 = kpK kp (kmk op kk n a b z d k x) ∧ memo op kk n a b z tm u.2.1 u.2.2 u.1 ∧ ∀ j, u.2.2 j ≤ tm) (fun u : (Nat → Nat) × (Nat → Nat) × (Nat → Nat) => [(h, .inr (kk + 3, .int (nI kd) :: .int (nI n) :: .int (nI w) :: .int (nI ns) :: .int (nI hn) :: .int (nI hq) :: xt kk a b z)), (hp, .inr (2, [.ref po, .ref pk, .ref pa, .ref pb, .ref pw, .ref ps, .int (nI tm)])), (po, .inl (cI, 6, .inl (nA op))), (pk, .inl (cI, 6, .inl (nA u.1))), (pw, .inl (cI, 384, .inl (nA u.2.1))), (ps, .inl (cI, 384, .inl (nA u.2.2)))]) := by
  induction d with
  | zero => exact wf_0 l D cI
  | succ d ih => exact fun sz h kk kd n w ns hn hq a b z hp po pk pa pb pw ps tm op kp wd ks k x => wf_s l D cI sz d h kk kd n w ns hn hq a b z hp po pk pa pb pw ps tm op kp wd ks k x ih
theorem memo_new {op : Nat → Nat} {kk n a b z tm : Nat} {wd ks kp : Nat → Nat} (h : ∀ j, ks j ≤ tm) : memo op kk n a b z (tm + 1) wd ks kp := fun k x _ _ e => by
  have := h (k * 64 + x)
  omega
set_option maxHeartbeats 4000000 in
set_option maxRecDepth 100000 in
theorem c_Wa_keeps (l : Launch) (D : va_G) (cI : ClassId) (sz : Nat) (h : Nat) (kk : Nat) (kd : Nat) (n : Nat) (w : Nat) (ns : Nat) (hn : Nat) (hq : Nat) (a : Nat) (b : Nat) (z : Nat) (hp : Nat) (po : Nat) (pk : Nat) (pa : Nat) (pb : Nat) (pw : Nat) (ps : Nat) (tm : Nat) (op : Nat → Nat) (kp : Nat → Nat) (wd : Nat → Nat) (ks : Nat → Nat) (hok : okc kk n a b z) (htm : tm + 1 < 2147483648) (hks : ∀ j, ks j ≤ tm) (hop : ∀ j, op j < 64) : MetI l y_Wa_keeps b_Wa_keeps 2 (some .boolean) { frames := 12, cells := 0, slots := 0, locals := 600 } D cI [] sz [(h, .inr (kk + 3, .int (nI kd) :: .int (nI n) :: .int (nI w) :: .int (nI ns) :: .int (nI hn) :: .int (nI hq) :: xt kk a b z)), (hp, .inr (2, [.ref po, .ref pk, .ref pa, .ref pb, .ref pw, .ref ps, .int (nI tm)])), (po, .inl (cI, 6, .inl (nA op))), (pk, .inl (cI, 6, .inl (nA kp))), (pw, .inl (cI, 384, .inl (nA wd))), (ps, .inl (cI, 384, .inl (nA ks)))] [.ref h, .ref hp] (fun (r : Int32) (u : (Nat → Nat) × (Nat → Nat) × (Nat → Nat)) => r = bI (decide (0 < wcnt op kk n a b z n 0 0)) ∧ u.1 = kpK kp (kmk op kk n a b z n 0 0) ∧ ∀ j, u.2.2 j ≤ tm + 1) (fun u : (Nat → Nat) × (Nat → Nat) × (Nat → Nat) => [(h, .inr (kk + 3, .int (nI kd) :: .int (nI n) :: .int (nI w) :: .int (nI ns) :: .int (nI hn) :: .int (nI hq) :: xt kk a b z)), (hp, .inr (2, [.ref po, .ref pk, .ref pa, .ref pb, .ref pw, .ref ps, .int (nI (tm + 1))])), (po, .inl (cI, 6, .inl (nA op))), (pk, .inl (cI, 6, .inl (nA u.1))), (pw, .inl (cI, 384, .inl (nA u.2.1))), (ps, .inl (cI, 384, .inl (nA u.2.2)))]) := by
  refine enter (by decide) (Nat.le_of_ble_eq_true rfl) ?_
  intro p e s m below meth c A ls C0 hr hlk hnm hK hsz hA hAe hP hD hS hl
  have hx := C0.1
  have hb := C0.2.1
  have hl : lv_has ls 2 [(0, .ref h), (1, .ref hp)] := hl
  have hn6 := hok.2.1
  refine lv_aload_n hx hb d_Wa_keeps_0 rfl (lv_at hl 1 rfl) ?_
  refine call_v (rm := { frames := 0, cells := 0, slots := 0, locals := 0 }) hS hP hD hA (spl_mk (wc := [(hp, .inr (2, [.ref po, .ref pk, .ref pa, .ref pb, .ref pw, .ref ps, .int (nI tm)]))]) (wr := [(h, .inr (kk + 3, .int (nI kd) :: .int (nI n) :: .int (nI w) :: .int (nI ns) :: .int (nI hn) :: .int (nI hq) :: xt kk a b z)), (po, .inl (cI, 6, .inl (nA op))), (pk, .inl (cI, 6, .inl (nA kp))), (pw, .inl (cI, 384, .inl (nA wd))), (ps, .inl (cI, 384, .inl (nA ks)))]) [1] [0, 2, 3, 4, 5] rfl rfl (by decide)) (run_v (n := 0) (As := []) (rest := []) (q0 := 0) (ci := 2) C0 (hK.sub [] rfl) (c_Pl_forget l D cI s.heap.size hp po pk pa pb pw ps tm) rfl rfl wt_426 wt_3 wt_423 wt_424 wt_425 (by decide +kernel) ⟨Nat.le_of_ble_eq_true rfl, Nat.le_of_ble_eq_true rfl⟩ rfl hl.1 rfl (Nat.le_of_ble_eq_true rfl) d_Wa_keeps_1 ⟨Nat.le_of_ble_eq_true rfl, Nat.le_of_ble_eq_true rfl⟩) (fun _u1 H locs hw_1 hP hD hS => ?_)
  have hP : va_P D cls [(h, .inr (kk + 3, .int (nI kd) :: .int (nI n) :: .int (nI w) :: .int (nI ns) :: .int (nI hn) :: .int (nI hq) :: xt kk a b z)), (po, .inl (cI, 6, .inl (nA op))), (pk, .inl (cI, 6, .inl (nA kp))), (pw, .inl (cI, 384, .inl (nA wd))), (ps, .inl (cI, 384, .inl (nA ks))), (hp, .inr (2, [.ref po, .ref pk, .ref pa, .ref pb, .ref pw, .ref ps, .int (nI (tm + 1))]))] H := hP
  have hD : va_D A [(h, .inr (kk + 3, .int (nI kd) :: .int (nI n) :: .int (nI w) :: .int (nI ns) :: .int (nI hn) :: .int (nI hq) :: xt kk a b z)), (po, .inl (cI, 6, .inl (nA op))), (pk, .inl (cI, 6, .inl (nA kp))), (pw, .inl (cI, 384, .inl (nA wd))), (ps, .inl (cI, 384, .inl (nA ks))), (hp, .inr (2, [.ref po, .ref pk, .ref pa, .ref pb, .ref pw, .ref ps, .int (nI (tm + 1))]))] := hD
  refine lv_aload_n hx hb d_Wa_keeps_4 rfl (lv_at hl 0 rfl) ?_
  refine lv_iconst (v := (nI 0)) hx hb d_Wa_keeps_5 (by decide) ?_
  refine lv_iconst (v := (nI 0)) hx hb d_Wa_keeps_6 (by decide) ?_
  refine lv_aload_n hx hb d_Wa_keeps_7 rfl (lv_at hl 1 rfl) ?_
  refine call_i (rm := { frames := 3 + n, cells := 0, slots := 0, locals := 100 + 60 * n }) hS hP hD hA (spl_mk (wc := [(h, .inr (kk + 3, .int (nI kd) :: .int (nI n) :: .int (nI w) :: .int (nI ns) :: .int (nI hn) :: .int (nI hq) :: xt kk a b z)), (hp, .inr (2, [.ref po, .ref pk, .ref pa, .ref pb, .ref pw, .ref ps, .int (nI (tm + 1))])), (po, .inl (cI, 6, .inl (nA op))), (pk, .inl (cI, 6, .inl (nA kp))), (pw, .inl (cI, 384, .inl (nA wd))), (ps, .inl (cI, 384, .inl (nA ks)))]) (wr := []) [0, 5, 1, 2, 3, 4] [] rfl rfl (by decide)) (run_wordsFrom (As := [.int (nI 0), .int (nI 0), .ref hp]) (rest := []) (q0 := 0) C0 hK (okc_kk hok) (c_Wa_wordsFrom l D cI n H.size h kk kd n w ns hn hq a b z hp po pk pa pb pw ps (tm + 1) op kp wd ks 0 0 hok ⟨by decide, fun _ => Nat.le_refl _⟩ (by omega) (by omega) (fun j => Nat.le_succ_of_le (hks j)) hop (memo_new hks)) rfl rfl ⟨by simp only []; omega, by simp only []; omega⟩ hl.1 rfl (Nat.le_of_ble_eq_true rfl) d_Wa_keeps_8 ⟨Nat.le_of_ble_eq_true rfl, Nat.le_of_ble_eq_true rfl⟩) (fun r_8 u_8 H locs hw_8 hP hD hS => ?_)
  have hP : va_P D cls [(h, .inr (kk + 3, .int (nI kd) :: .int (nI n) :: .int (nI w) :: .int (nI ns) :: .int (nI hn) :: .int (nI hq) :: xt kk a b z)), (hp, .inr (2, [.ref po, .ref pk, .ref pa, .ref pb, .ref pw, .ref ps, .int (nI (tm + 1))])), (po, .inl (cI, 6, .inl (nA op))), (pk, .inl (cI, 6, .inl (nA u_8.1))), (pw, .inl (cI, 384, .inl (nA u_8.2.1))), (ps, .inl (cI, 384, .inl (nA u_8.2.2)))] H := hP
  have hD : va_D A [(h, .inr (kk + 3, .int (nI kd) :: .int (nI n) :: .int (nI w) :: .int (nI ns) :: .int (nI hn) :: .int (nI hq) :: xt kk a b z)), (hp, .inr (2, [.ref po, .ref pk, .ref pa, .ref pb, .ref pw, .ref ps, .int (nI (tm + 1))])), (po, .inl (cI, 6, .inl (nA op))), (pk, .inl (cI, 6, .inl (nA u_8.1))), (pw, .inl (cI, 384, .inl (nA u_8.2.1))), (ps, .inl (cI, 384, .inl (nA u_8.2.2)))] := hD
  obtain ⟨hr8, hu8, hm8, hk8⟩ := hw_8
  subst hr8
  rw [hu8] at hP hD
  have hwl : wcnt op kk n a b z n 0 0 < 2147483648 := wcnt_lt hn6.2
  refine z_le (tgt := 18) hx hb (by omega) d_Wa_keeps_11 (by decide) (fun c_11 => ?_) (fun c_11 => ?_)
  · refine lv_iconst (v := (nI 0)) hx hb d_Wa_keeps_18 (by decide) ?_
    exact ret_i C0 hr hlk hAe hS (kpK kp (kmk op kk n a b z n 0 0), u_8.2.1, u_8.2.2) (by first | exact ⟨by rw [decide_eq_true c_11]; rfl, rfl, hk8⟩ | exact ⟨by rw [decide_eq_false (by omega)]; rfl, rfl, hk8⟩) hP hD rfl (Nat.le_of_ble_eq_true rfl) (Nat.le_of_ble_eq_true rfl) d_Wa_keeps_19
  · refine lv_iconst (v := (nI 1)) hx hb d_Wa_keeps_14 (by decide) ?_
    refine lv_goto (tgt := 19) hx hb d_Wa_keeps_15 (by decide) ?_
    exact ret_i C0 hr hlk hAe hS (kpK kp (kmk op kk n a b z n 0 0), u_8.2.1, u_8.2.2) (by first | exact ⟨by rw [decide_eq_true c_11]; rfl, rfl, hk8⟩ | exact ⟨by rw [decide_eq_false (by omega)]; rfl, rfl, hk8⟩) hP hD rfl (Nat.le_of_ble_eq_true rfl) (Nat.le_of_ble_eq_true rfl) d_Wa_keeps_19
set_option maxHeartbeats 4000000 in
set_option maxRecDepth 100000 in
theorem c_Wa_openWords (l : Launch) (D : va_G) (cI : ClassId) (sz : Nat) (h : Nat) (kk : Nat) (kd : Nat) (n : Nat) (w : Nat) (ns : Nat) (hn : Nat) (hq : Nat) (a : Nat) (b : Nat) (z : Nat) (hp : Nat) (po : Nat) (pk : Nat) (pa : Nat) (pb : Nat) (pw : Nat) (ps : Nat) (tm : Nat) (op : Nat → Nat) (kp : Nat → Nat) (wd : Nat → Nat) (ks : Nat → Nat) (hok : okc kk n a b z) (htm : tm + 1 < 2147483648) (hks : ∀ j, ks j ≤ tm) (hop : ∀ j, op j < 64) : MetI l y_Wa_openWords b_Wa_openWords 2 (some .int) { frames := 12, cells := 0, slots := 0, locals := 600 } D cI [] sz [(h, .inr (kk + 3, .int (nI kd) :: .int (nI n) :: .int (nI w) :: .int (nI ns) :: .int (nI hn) :: .int (nI hq) :: xt kk a b z)), (hp, .inr (2, [.ref po, .ref pk, .ref pa, .ref pb, .ref pw, .ref ps, .int (nI tm)])), (po, .inl (cI, 6, .inl (nA op))), (pk, .inl (cI, 6, .inl (nA kp))), (pw, .inl (cI, 384, .inl (nA wd))), (ps, .inl (cI, 384, .inl (nA ks)))] [.ref h, .ref hp] (fun (r : Int32) (u : (Nat → Nat) × (Nat → Nat) × (Nat → Nat)) => r = nI (wcnt op kk n a b z n 0 0) ∧ u.1 = kpK kp (kmk op kk n a b z n 0 0) ∧ ∀ j, u.2.2 j ≤ tm + 1) (fun u : (Nat → Nat) × (Nat → Nat) × (Nat → Nat) => [(h, .inr (kk + 3, .int (nI kd) :: .int (nI n) :: .int (nI w) :: .int (nI ns) :: .int (nI hn) :: .int (nI hq) :: xt kk a b z)), (hp, .inr (2, [.ref po, .ref pk, .ref pa, .ref pb, .ref pw, .ref ps, .int (nI (tm + 1))])), (po, .inl (cI, 6, .inl (nA op))), (pk, .inl (cI, 6, .inl (nA u.1))), (pw, .inl (cI, 384, .inl (nA u.2.1))), (ps, .inl (cI, 384, .inl (nA u.2.2)))]) := by
  refine enter (by decide) (Nat.le_of_ble_eq_true rfl) ?_
  intro p e s m below meth c A ls C0 hr hlk hnm hK hsz hA hAe hP hD hS hl
  have hx := C0.1
  have hb := C0.2.1
  have hl : lv_has ls 2 [(0, .ref h), (1, .ref hp)] := hl
  have hn6 := hok.2.1
  refine lv_aload_n hx hb d_Wa_openWords_0 rfl (lv_at hl 1 rfl) ?_
  refine call_v (rm := { frames := 0, cells := 0, slots := 0, locals := 0 }) hS hP hD hA (spl_mk (wc := [(hp, .inr (2, [.ref po, .ref pk, .ref pa, .ref pb, .ref pw, .ref ps, .int (nI tm)]))]) (wr := [(h, .inr (kk + 3, .int (nI kd) :: .int (nI n) :: .int (nI w) :: .int (nI ns) :: .int (nI hn) :: .int (nI hq) :: xt kk a b z)), (po, .inl (cI, 6, .inl (nA op))), (pk, .inl (cI, 6, .inl (nA kp))), (pw, .inl (cI, 384, .inl (nA wd))), (ps, .inl (cI, 384, .inl (nA ks)))]) [1] [0, 2, 3, 4, 5] rfl rfl (by decide)) (run_v (n := 0) (As := []) (rest := []) (q0 := 0) (ci := 2) C0 (hK.sub [] rfl) (c_Pl_forget l D cI s.heap.size hp po pk pa pb pw ps tm) rfl rfl wt_426 wt_3 wt_423 wt_424 wt_425 (by decide +kernel) ⟨Nat.le_of_ble_eq_true rfl, Nat.le_of_ble_eq_true rfl⟩ rfl hl.1 rfl (Nat.le_of_ble_eq_true rfl) d_Wa_openWords_1 ⟨Nat.le_of_ble_eq_true rfl, Nat.le_of_ble_eq_true rfl⟩) (fun _u1 H locs hw_1 hP hD hS => ?_)
  have hP : va_P D cls [(h, .inr (kk + 3, .int (nI kd) :: .int (nI n) :: .int (nI w) :: .int (nI ns) :: .int (nI hn) :: .int (nI hq) :: xt kk a b z)), (po, .inl (cI, 6, .inl (nA op))), (pk, .inl (cI, 6, .inl (nA kp))), (pw, .inl (cI, 384, .inl (nA wd))), (ps, .inl (cI, 384, .inl (nA ks))), (hp, .inr (2, [.ref po, .ref pk, .ref pa, .ref pb, .ref pw, .ref ps, .int (nI (tm + 1))]))] H := hP
  have hD : va_D A [(h, .inr (kk + 3, .int (nI kd) :: .int (nI n) :: .int (nI w) :: .int (nI ns) :: .int (nI hn) :: .int (nI hq) :: xt kk a b z)), (po, .inl (cI, 6, .inl (nA op))), (pk, .inl (cI, 6, .inl (nA kp))), (pw, .inl (cI, 384, .inl (nA wd))), (ps, .inl (cI, 384, .inl (nA ks))), (hp, .inr (2, [.ref po, .ref pk, .ref pa, .ref pb, .ref pw, .ref ps, .int (nI (tm + 1))]))] := hD
  refine lv_aload_n hx hb d_Wa_openWords_4 rfl (lv_at hl 0 rfl) ?_
  refine lv_iconst (v := (nI 0)) hx hb d_Wa_openWords_5 (by decide) ?_
  refine lv_iconst (v := (nI 0)) hx hb d_Wa_openWords_6 (by decide) ?_
  refine lv_aload_n hx hb d_Wa_openWords_7 rfl (lv_at hl 1 rfl) ?_
  refine call_i (rm := { frames := 3 + n, cells := 0, slots := 0, locals := 100 + 60 * n }) hS hP hD hA (spl_mk (wc := [(h, .inr (kk + 3, .int (nI kd) :: .int (nI n) :: .int (nI w) :: .int (nI ns) :: .int (nI hn) :: .int (nI hq) :: xt kk a b z)), (hp, .inr (2, [.ref po, .ref pk, .ref pa, .ref pb, .ref pw, .ref ps, .int (nI (tm + 1))])), (po, .inl (cI, 6, .inl (nA op))), (pk, .inl (cI, 6, .inl (nA kp))), (pw, .inl (cI, 384, .inl (nA wd))), (ps, .inl (cI, 384, .inl (nA ks)))]) (wr := []) [0, 5, 1, 2, 3, 4] [] rfl rfl (by decide)) (run_wordsFrom (As := [.int (nI 0), .int (nI 0), .ref hp]) (rest := []) (q0 := 0) C0 hK (okc_kk hok) (c_Wa_wordsFrom l D cI n H.size h kk kd n w ns hn hq a b z hp po pk pa pb pw ps (tm + 1) op kp wd ks 0 0 hok ⟨by decide, fun _ => Nat.le_refl _⟩ (by omega) (by omega) (fun j => Nat.le_succ_of_le (hks j)) hop (memo_new hks)) rfl rfl ⟨by simp only []; omega, by simp only []; omega⟩ hl.1 rfl (Nat.le_of_ble_eq_true rfl) d_Wa_openWords_8 ⟨Nat.le_of_ble_eq_true rfl, Nat.le_of_ble_eq_true rfl⟩) (fun r_8 u_8 H locs hw_8 hP hD hS => ?_)
  have hP : va_P D cls [(h, .inr (kk + 3, .int (nI kd) :: .int (nI n) :: .int (nI w) :: .int (nI ns) :: .int (nI hn) :: .int (nI hq) :: xt kk a b z)), (hp, .inr (2, [.ref po, .ref pk, .ref pa, .ref pb, .ref pw, .ref ps, .int (nI (tm + 1))])), (po, .inl (cI, 6, .inl (nA op))), (pk, .inl (cI, 6, .inl (nA u_8.1))), (pw, .inl (cI, 384, .inl (nA u_8.2.1))), (ps, .inl (cI, 384, .inl (nA u_8.2.2)))] H := hP
  have hD : va_D A [(h, .inr (kk + 3, .int (nI kd) :: .int (nI n) :: .int (nI w) :: .int (nI ns) :: .int (nI hn) :: .int (nI hq) :: xt kk a b z)), (hp, .inr (2, [.ref po, .ref pk, .ref pa, .ref pb, .ref pw, .ref ps, .int (nI (tm + 1))])), (po, .inl (cI, 6, .inl (nA op))), (pk, .inl (cI, 6, .inl (nA u_8.1))), (pw, .inl (cI, 384, .inl (nA u_8.2.1))), (ps, .inl (cI, 384, .inl (nA u_8.2.2)))] := hD
  obtain ⟨hr8, hu8, hm8, hk8⟩ := hw_8
  subst hr8
  rw [hu8] at hP hD
  have hwl : wcnt op kk n a b z n 0 0 < 2147483648 := wcnt_lt hn6.2
  exact ret_i C0 hr hlk hAe hS (kpK kp (kmk op kk n a b z n 0 0), u_8.2.1, u_8.2.2) (⟨rfl, rfl, hk8⟩) hP hD rfl (Nat.le_of_ble_eq_true rfl) (Nat.le_of_ble_eq_true rfl) d_Wa_openWords_11
