def oI : Option Nat → Int32
  | none => -1
  | some k => nI k
def aEl (n x k v : Nat) : Option Nat := if k = 0 then (if v < n - 2 then some v else none) else if k = 1 then some (x ||| v * 2 ^ 3) else if k - 2 = dgt x 0 ∧ ¬ v = dgt x 1 then none else some x
def aOr (n x k v : Nat) : Option Nat := if k < n / 2 ^ 1 then some (x ||| v * 2 ^ (3 * k)) else if x = 63 ∨ dgt x 0 < v then some 63 else if v < dgt x 0 then none else some (x / 2 ^ 3)
def aSu (b x v : Nat) : Option Nat := if b < x + v then none else some (x + v)
def aTy (z x v : Nat) : Option Nat := if v = z then some (x + 1) else some x
def aFi (a b x v : Nat) : Option Nat := if v = b ∧ x = 0 then none else if v = a then some 1 else some x
set_option maxHeartbeats 4000000 in
set_option maxRecDepth 100000 in
theorem c_Wa_init (l : Launch) (D : va_G) (cI : ClassId) (sz : Nat) (h : Nat) (ci : Nat) (ex : List Value) (kd : Nat) (mn : Nat) (w : Nat) (hci : isC ci) (hmn : mn ≤ 6) (hw : w < 2147483648) : MetV l y_Wa_init b_Wa_init 4 { frames := 2, cells := 0, slots := 0, locals := 47 } D cI [] sz [(h, .inr (ci, .int (nI 0) :: .int (nI 0) :: .int (nI 0) :: .int (nI 0) :: .int (nI 0) :: .int (nI 0) :: ex))] [.ref h, .int (nI kd), .int (nI mn), .int (nI w)] (fun (u : Unit) => True) (fun u : Unit => [(h, .inr (ci, .int (nI kd) :: .int (nI mn) :: .int (nI w) :: .int (nI (nsF w mn)) :: .int (nI (dgt w (hpF w mn))) :: .int (nI (hpF w mn)) :: ex))]) := by
  refine enter (by decide) (Nat.le_of_ble_eq_true rfl) ?_
  intro p e s m below meth c A ls C0 hr hlk hnm hK hsz hA hAe hP hD hS hl
  have hx := C0.1
  have hb := C0.2.1
  have hl : lv_has ls 4 [(0, .ref h), (1, .int (nI kd)), (2, .int (nI mn)), (3, .int (nI w))] := hl
  refine lv_aload_n hx hb d_Wa_init_0 rfl (lv_at hl 0 rfl) ?_
  refine lv_iload_n hx hb d_Wa_init_1 rfl (lv_at hl 1 rfl) ?_
  refine lv_iload_n hx hb d_Wa_init_2 rfl (lv_at hl 2 rfl) ?_
  refine lv_iload_n hx hb d_Wa_init_3 rfl (lv_at hl 3 rfl) ?_
  refine call_v (rm := { frames := 1, cells := 0, slots := 0, locals := 21 }) hS hP hD hA (spl_mk (wc := [(h, .inr (ci, .int (nI 0) :: .int (nI 0) :: .int (nI 0) :: .int (nI 0) :: .int (nI 0) :: .int (nI 0) :: ex))]) (wr := []) [0] [] rfl rfl (by decide)) (run_I (n := 3) (As := [.int (nI kd), .int (nI mn), .int (nI w)]) (rest := []) C0 (hK.sub [] rfl) (c_Co_init l D cI s.heap.size h ci ex kd mn w hci (by omega) (by omega)) rfl wt_159 wt_5 wt_280 wt_158 (by decide +kernel) ⟨Nat.le_of_ble_eq_true rfl, Nat.le_of_ble_eq_true rfl⟩ rfl hl.1 rfl (Nat.le_of_ble_eq_true rfl) d_Wa_init_4 ⟨Nat.le_of_ble_eq_true rfl, Nat.le_of_ble_eq_true rfl⟩) (fun _u4 H locs hw_4 hP hD hS => ?_)
  have hP : va_P D cls [(h, .inr (ci, .int (nI kd) :: .int (nI mn) :: .int (nI w) :: .int (nI (nsF w mn)) :: .int (nI (dgt w (hpF w mn))) :: .int (nI (hpF w mn)) :: ex))] H := hP
  have hD : va_D A [(h, .inr (ci, .int (nI kd) :: .int (nI mn) :: .int (nI w) :: .int (nI (nsF w mn)) :: .int (nI (dgt w (hpF w mn))) :: .int (nI (hpF w mn)) :: ex))] := hD
  exact ret_v C0 hr hlk hAe hS () trivial hP hD (Nat.le_of_ble_eq_true rfl) (Nat.le_of_ble_eq_true rfl) d_Wa_init_7
set_option maxHeartbeats 4000000 in
set_option maxRecDepth 100000 in
theorem c_El_init (l : Launch) (D : va_G) (cI : ClassId) (sz : Nat) (h : Nat) (mn : Nat) (w : Nat) (hmn : mn ≤ 6) (hw : w < 2147483648) : MetV l y_El_init b_El_init 3 { frames := 3, cells := 0, slots := 0, locals := 70 } D cI [] sz [(h, .inr (5, [.int (nI 0), .int (nI 0), .int (nI 0), .int (nI 0), .int (nI 0), .int (nI 0)]))] [.ref h, .int (nI mn), .int (nI w)] (fun (u : Unit) => True) (fun u : Unit => [(h, .inr (5, [.int (nI 2), .int (nI mn), .int (nI w), .int (nI (nsF w mn)), .int (nI (dgt w (hpF w mn))), .int (nI (hpF w mn))]))]) := by
  refine enter (by decide) (Nat.le_of_ble_eq_true rfl) ?_
  intro p e s m below meth c A ls C0 hr hlk hnm hK hsz hA hAe hP hD hS hl
  have hx := C0.1
  have hb := C0.2.1
  have hl : lv_has ls 3 [(0, .ref h), (1, .int (nI mn)), (2, .int (nI w))] := hl
  refine lv_aload_n hx hb d_El_init_0 rfl (lv_at hl 0 rfl) ?_
  refine lv_iconst (v := (nI 2)) hx hb d_El_init_1 (by decide) ?_
  refine lv_iload_n hx hb d_El_init_2 rfl (lv_at hl 1 rfl) ?_
  refine lv_iload_n hx hb d_El_init_3 rfl (lv_at hl 2 rfl) ?_
  refine call_v (rm := { frames := 2, cells := 0, slots := 0, locals := 47 }) hS hP hD hA (spl_mk (wc := [(h, .inr (5, [.int (nI 0), .int (nI 0), .int (nI 0), .int (nI 0), .int (nI 0), .int (nI 0)]))]) (wr := []) [0] [] rfl rfl (by decide)) (run_I (n := 3) (As := [.int (nI 2), .int (nI mn), .int (nI w)]) (rest := []) C0 (hK.sub [] rfl) (c_Wa_init l D cI s.heap.size h 5 ([]) 2 mn w ⟨by decide, by decide⟩ (by omega) (by omega)) rfl wt_279 wt_8 wt_277 wt_278 (by decide +kernel) ⟨Nat.le_of_ble_eq_true rfl, Nat.le_of_ble_eq_true rfl⟩ rfl hl.1 rfl (Nat.le_of_ble_eq_true rfl) d_El_init_4 ⟨Nat.le_of_ble_eq_true rfl, Nat.le_of_ble_eq_true rfl⟩) (fun _u4 H locs hw_4 hP hD hS => ?_)
  have hP : va_P D cls [(h, .inr (5, [.int (nI 2), .int (nI mn), .int (nI w), .int (nI (nsF w mn)), .int (nI (dgt w (hpF w mn))), .int (nI (hpF w mn))]))] H := hP
  have hD : va_D A [(h, .inr (5, [.int (nI 2), .int (nI mn), .int (nI w), .int (nI (nsF w mn)), .int (nI (dgt w (hpF w mn))), .int (nI (hpF w mn))]))] := hD
  exact ret_v C0 hr hlk hAe hS () trivial hP hD (Nat.le_of_ble_eq_true rfl) (Nat.le_of_ble_eq_true rfl) d_El_init_7
set_option maxHeartbeats 4000000 in
set_option maxRecDepth 100000 in
theorem c_Or_init (l : Launch) (D : va_G) (cI : ClassId) (sz : Nat) (h : Nat) (mn : Nat) (w : Nat) (st : Bool) (hmn : mn ≤ 6) (hw : w < 2147483648) : MetV l y_Or_init b_Or_init 4 { frames := 3, cells := 0, slots := 0, locals := 70 } D cI [] sz [(h, .inr (6, [.int (nI 0), .int (nI 0), .int (nI 0), .int (nI 0), .int (nI 0), .int (nI 0), .int (bI false)]))] [.ref h, .int (nI mn), .int (nI w), .int (bI st)] (fun (u : Unit) => True) (fun u : Unit => [(h, .inr (6, [.int (nI 3), .int (nI mn), .int (nI w), .int (nI (nsF w mn)), .int (nI (dgt w (hpF w mn))), .int (nI (hpF w mn)), .int (bI st)]))]) := by
  refine enter (by decide) (Nat.le_of_ble_eq_true rfl) ?_
  intro p e s m below meth c A ls C0 hr hlk hnm hK hsz hA hAe hP hD hS hl
  have hx := C0.1
  have hb := C0.2.1
  have hl : lv_has ls 4 [(0, .ref h), (1, .int (nI mn)), (2, .int (nI w)), (3, .int (bI st))] := hl
  refine lv_aload_n hx hb d_Or_init_0 rfl (lv_at hl 0 rfl) ?_
  refine lv_iconst (v := (nI 3)) hx hb d_Or_init_1 (by decide) ?_
  refine lv_iload_n hx hb d_Or_init_2 rfl (lv_at hl 1 rfl) ?_
  refine lv_iload_n hx hb d_Or_init_3 rfl (lv_at hl 2 rfl) ?_
  refine call_v (rm := { frames := 2, cells := 0, slots := 0, locals := 47 }) hS hP hD hA (spl_mk (wc := [(h, .inr (6, [.int (nI 0), .int (nI 0), .int (nI 0), .int (nI 0), .int (nI 0), .int (nI 0), .int (bI false)]))]) (wr := []) [0] [] rfl rfl (by decide)) (run_I (n := 3) (As := [.int (nI 3), .int (nI mn), .int (nI w)]) (rest := []) C0 (hK.sub [] rfl) (c_Wa_init l D cI s.heap.size h 6 ([.int (bI false)]) 3 mn w ⟨by decide, by decide⟩ (by omega) (by omega)) rfl wt_279 wt_8 wt_297 wt_278 (by decide +kernel) ⟨Nat.le_of_ble_eq_true rfl, Nat.le_of_ble_eq_true rfl⟩ rfl hl.1 rfl (Nat.le_of_ble_eq_true rfl) d_Or_init_4 ⟨Nat.le_of_ble_eq_true rfl, Nat.le_of_ble_eq_true rfl⟩) (fun _u4 H locs hw_4 hP hD hS => ?_)
  have hP : va_P D cls [(h, .inr (6, [.int (nI 3), .int (nI mn), .int (nI w), .int (nI (nsF w mn)), .int (nI (dgt w (hpF w mn))), .int (nI (hpF w mn)), .int (bI false)]))] H := hP
  have hD : va_D A [(h, .inr (6, [.int (nI 3), .int (nI mn), .int (nI w), .int (nI (nsF w mn)), .int (nI (dgt w (hpF w mn))), .int (nI (hpF w mn)), .int (bI false)]))] := hD
  refine lv_aload_n hx hb d_Or_init_7 rfl (lv_at hl 0 rfl) ?_
  refine lv_iload_n hx hb d_Or_init_8 rfl (lv_at hl 3 rfl) ?_
  refine r_putF C0 hK hP hD hS 0 rfl rfl i_Or t_Or k_Or n_Or 6 (by decide) wt_298 (fun _ h => h) rfl hnm rfl (bI_n _) (bI_fit _) (Nat.le_of_ble_eq_true rfl) d_Or_init_9 (fun H locs hP hD hS => ?_)
  have hP : va_P D cls [(h, .inr (6, [.int (nI 3), .int (nI mn), .int (nI w), .int (nI (nsF w mn)), .int (nI (dgt w (hpF w mn))), .int (nI (hpF w mn)), .int (bI st)]))] H := hP
  have hD : va_D A [(h, .inr (6, [.int (nI 3), .int (nI mn), .int (nI w), .int (nI (nsF w mn)), .int (nI (dgt w (hpF w mn))), .int (nI (hpF w mn)), .int (bI st)]))] := hD
  exact ret_v C0 hr hlk hAe hS () trivial hP hD (Nat.le_of_ble_eq_true rfl) (Nat.le_of_ble_eq_true rfl) d_Or_init_12
set_option maxHeartbeats 4000000 in
set_option maxRecDepth 100000 in
theorem c_Su_init (l : Launch) (D : va_G) (cI : ClassId) (sz : Nat) (h : Nat) (mn : Nat) (w : Nat) (a : Nat) (b : Nat) (hmn : mn ≤ 6) (hw : w < 2147483648) : MetV l y_Su_init b_Su_init 5 { frames := 3, cells := 0, slots := 0, locals := 70 } D cI [] sz [(h, .inr (7, [.int (nI 0), .int (nI 0), .int (nI 0), .int (nI 0), .int (nI 0), .int (nI 0), .int (nI 0), .int (nI 0)]))] [.ref h, .int (nI mn), .int (nI w), .int (nI a), .int (nI b)] (fun (u : Unit) => True) (fun u : Unit => [(h, .inr (7, [.int (nI 4), .int (nI mn), .int (nI w), .int (nI (nsF w mn)), .int (nI (dgt w (hpF w mn))), .int (nI (hpF w mn)), .int (nI a), .int (nI b)]))]) := by
  refine enter (by decide) (Nat.le_of_ble_eq_true rfl) ?_
  intro p e s m below meth c A ls C0 hr hlk hnm hK hsz hA hAe hP hD hS hl
  have hx := C0.1
  have hb := C0.2.1
  have hl : lv_has ls 5 [(0, .ref h), (1, .int (nI mn)), (2, .int (nI w)), (3, .int (nI a)), (4, .int (nI b))] := hl
  refine lv_aload_n hx hb d_Su_init_0 rfl (lv_at hl 0 rfl) ?_
  refine lv_iconst (v := (nI 4)) hx hb d_Su_init_1 (by decide) ?_
  refine lv_iload_n hx hb d_Su_init_2 rfl (lv_at hl 1 rfl) ?_
  refine lv_iload_n hx hb d_Su_init_3 rfl (lv_at hl 2 rfl) ?_
  refine call_v (rm := { frames := 2, cells := 0, slots := 0, locals := 47 }) hS hP hD hA (spl_mk (wc := [(h, .inr (7, [.int (nI 0), .int (nI 0), .int (nI 0), .int (nI 0), .int (nI 0), .int (nI 0), .int (nI 0), .int (nI 0)]))]) (wr := []) [0] [] rfl rfl (by decide)) (run_I (n := 3) (As := [.int (nI 4), .int (nI mn), .int (nI w)]) (rest := []) C0 (hK.sub [] rfl) (c_Wa_init l D cI s.heap.size h 7 ([.int (nI 0), .int (nI 0)]) 4 mn w ⟨by decide, by decide⟩ (by omega) (by omega)) rfl wt_279 wt_8 wt_320 wt_278 (by decide +kernel) ⟨Nat.le_of_ble_eq_true rfl, Nat.le_of_ble_eq_true rfl⟩ rfl hl.1 rfl (Nat.le_of_ble_eq_true rfl) d_Su_init_4 ⟨Nat.le_of_ble_eq_true rfl, Nat.le_of_ble_eq_true rfl⟩) (fun _u4 H locs hw_4 hP hD hS => ?_)
  have hP : va_P D cls [(h, .inr (7, [.int (nI 4), .int (nI mn), .int (nI w), .int (nI (nsF w mn)), .int (nI (dgt w (hpF w mn))), .int (nI (hpF w mn)), .int (nI 0), .int (nI 0)]))] H := hP
  have hD : va_D A [(h, .inr (7, [.int (nI 4), .int (nI mn), .int (nI w), .int (nI (nsF w mn)), .int (nI (dgt w (hpF w mn))), .int (nI (hpF w mn)), .int (nI 0), .int (nI 0)]))] := hD
  refine lv_aload_n hx hb d_Su_init_7 rfl (lv_at hl 0 rfl) ?_
  refine lv_iload_n hx hb d_Su_init_8 rfl (lv_at hl 3 rfl) ?_
  refine r_putF C0 hK hP hD hS 0 rfl rfl i_Su t_Su k_Su n_Su 6 (by decide) wt_321 (fun _ h => h) rfl hnm rfl rfl rfl (Nat.le_of_ble_eq_true rfl) d_Su_init_9 (fun H locs hP hD hS => ?_)
  have hP : va_P D cls [(h, .inr (7, [.int (nI 4), .int (nI mn), .int (nI w), .int (nI (nsF w mn)), .int (nI (dgt w (hpF w mn))), .int (nI (hpF w mn)), .int (nI a), .int (nI 0)]))] H := hP
  have hD : va_D A [(h, .inr (7, [.int (nI 4), .int (nI mn), .int (nI w), .int (nI (nsF w mn)), .int (nI (dgt w (hpF w mn))), .int (nI (hpF w mn)), .int (nI a), .int (nI 0)]))] := hD
  refine lv_aload_n hx hb d_Su_init_12 rfl (lv_at hl 0 rfl) ?_
  refine lv_iload hx hb d_Su_init_13 (lv_at hl 4 rfl) ?_
  refine r_putF C0 hK hP hD hS 0 rfl rfl i_Su t_Su k_Su n_Su 7 (by decide) wt_322 (fun _ h => h) rfl hnm rfl rfl rfl (Nat.le_of_ble_eq_true rfl) d_Su_init_15 (fun H locs hP hD hS => ?_)
  have hP : va_P D cls [(h, .inr (7, [.int (nI 4), .int (nI mn), .int (nI w), .int (nI (nsF w mn)), .int (nI (dgt w (hpF w mn))), .int (nI (hpF w mn)), .int (nI a), .int (nI b)]))] H := hP
  have hD : va_D A [(h, .inr (7, [.int (nI 4), .int (nI mn), .int (nI w), .int (nI (nsF w mn)), .int (nI (dgt w (hpF w mn))), .int (nI (hpF w mn)), .int (nI a), .int (nI b)]))] := hD
  exact ret_v C0 hr hlk hAe hS () trivial hP hD (Nat.le_of_ble_eq_true rfl) (Nat.le_of_ble_eq_true rfl) d_Su_init_18
set_option maxHeartbeats 4000000 in
set_option maxRecDepth 100000 in
theorem c_Ty_init (l : Launch) (D : va_G) (cI : ClassId) (sz : Nat) (h : Nat) (mn : Nat) (w : Nat) (z : Nat) (a : Nat) (b : Nat) (hmn : mn ≤ 6) (hw : w < 2147483648) : MetV l y_Ty_init b_Ty_init 6 { frames := 3, cells := 0, slots := 0, locals := 70 } D cI [] sz [(h, .inr (8, [.int (nI 0), .int (nI 0), .int (nI 0), .int (nI 0), .int (nI 0), .int (nI 0), .int (nI 0), .int (nI 0), .int (nI 0)]))] [.ref h, .int (nI mn), .int (nI w), .int (nI z), .int (nI a), .int (nI b)] (fun (u : Unit) => True) (fun u : Unit => [(h, .inr (8, [.int (nI 5), .int (nI mn), .int (nI w), .int (nI (nsF w mn)), .int (nI (dgt w (hpF w mn))), .int (nI (hpF w mn)), .int (nI z), .int (nI a), .int (nI b)]))]) := by
  refine enter (by decide) (Nat.le_of_ble_eq_true rfl) ?_
  intro p e s m below meth c A ls C0 hr hlk hnm hK hsz hA hAe hP hD hS hl
  have hx := C0.1
  have hb := C0.2.1
  have hl : lv_has ls 6 [(0, .ref h), (1, .int (nI mn)), (2, .int (nI w)), (3, .int (nI z)), (4, .int (nI a)), (5, .int (nI b))] := hl
  refine lv_aload_n hx hb d_Ty_init_0 rfl (lv_at hl 0 rfl) ?_
  refine lv_iconst (v := (nI 5)) hx hb d_Ty_init_1 (by decide) ?_
  refine lv_iload_n hx hb d_Ty_init_2 rfl (lv_at hl 1 rfl) ?_
  refine lv_iload_n hx hb d_Ty_init_3 rfl (lv_at hl 2 rfl) ?_
  refine call_v (rm := { frames := 2, cells := 0, slots := 0, locals := 47 }) hS hP hD hA (spl_mk (wc := [(h, .inr (8, [.int (nI 0), .int (nI 0), .int (nI 0), .int (nI 0), .int (nI 0), .int (nI 0), .int (nI 0), .int (nI 0), .int (nI 0)]))]) (wr := []) [0] [] rfl rfl (by decide)) (run_I (n := 3) (As := [.int (nI 5), .int (nI mn), .int (nI w)]) (rest := []) C0 (hK.sub [] rfl) (c_Wa_init l D cI s.heap.size h 8 ([.int (nI 0), .int (nI 0), .int (nI 0)]) 5 mn w ⟨by decide, by decide⟩ (by omega) (by omega)) rfl wt_279 wt_8 wt_343 wt_278 (by decide +kernel) ⟨Nat.le_of_ble_eq_true rfl, Nat.le_of_ble_eq_true rfl⟩ rfl hl.1 rfl (Nat.le_of_ble_eq_true rfl) d_Ty_init_4 ⟨Nat.le_of_ble_eq_true rfl, Nat.le_of_ble_eq_true rfl⟩) (fun _u4 H locs hw_4 hP hD hS => ?_)
  have hP : va_P D cls [(h, .inr (8, [.int (nI 5), .int (nI mn), .int (nI w), .int (nI (nsF w mn)), .int (nI (dgt w (hpF w mn))), .int (nI (hpF w mn)), .int (nI 0), .int (nI 0), .int (nI 0)]))] H := hP
  have hD : va_D A [(h, .inr (8, [.int (nI 5), .int (nI mn), .int (nI w), .int (nI (nsF w mn)), .int (nI (dgt w (hpF w mn))), .int (nI (hpF w mn)), .int (nI 0), .int (nI 0), .int (nI 0)]))] := hD
  refine lv_aload_n hx hb d_Ty_init_7 rfl (lv_at hl 0 rfl) ?_
  refine lv_iload_n hx hb d_Ty_init_8 rfl (lv_at hl 3 rfl) ?_
  refine r_putF C0 hK hP hD hS 0 rfl rfl i_Ty t_Ty k_Ty n_Ty 6 (by decide) wt_344 (fun _ h => h) rfl hnm rfl rfl rfl (Nat.le_of_ble_eq_true rfl) d_Ty_init_9 (fun H locs hP hD hS => ?_)
  have hP : va_P D cls [(h, .inr (8, [.int (nI 5), .int (nI mn), .int (nI w), .int (nI (nsF w mn)), .int (nI (dgt w (hpF w mn))), .int (nI (hpF w mn)), .int (nI z), .int (nI 0), .int (nI 0)]))] H := hP
  have hD : va_D A [(h, .inr (8, [.int (nI 5), .int (nI mn), .int (nI w), .int (nI (nsF w mn)), .int (nI (dgt w (hpF w mn))), .int (nI (hpF w mn)), .int (nI z), .int (nI 0), .int (nI 0)]))] := hD
  refine lv_aload_n hx hb d_Ty_init_12 rfl (lv_at hl 0 rfl) ?_
  refine lv_iload hx hb d_Ty_init_13 (lv_at hl 4 rfl) ?_
  refine r_putF C0 hK hP hD hS 0 rfl rfl i_Ty t_Ty k_Ty n_Ty 7 (by decide) wt_345 (fun _ h => h) rfl hnm rfl rfl rfl (Nat.le_of_ble_eq_true rfl) d_Ty_init_15 (fun H locs hP hD hS => ?_)
  have hP : va_P D cls [(h, .inr (8, [.int (nI 5), .int (nI mn), .int (nI w), .int (nI (nsF w mn)), .int (nI (dgt w (hpF w mn))), .int (nI (hpF w mn)), .int (nI z), .int (nI a), .int (nI 0)]))] H := hP
  have hD : va_D A [(h, .inr (8, [.int (nI 5), .int (nI mn), .int (nI w), .int (nI (nsF w mn)), .int (nI (dgt w (hpF w mn))), .int (nI (hpF w mn)), .int (nI z), .int (nI a), .int (nI 0)]))] := hD
  refine lv_aload_n hx hb d_Ty_init_18 rfl (lv_at hl 0 rfl) ?_
  refine lv_iload hx hb d_Ty_init_19 (lv_at hl 5 rfl) ?_
  refine r_putF C0 hK hP hD hS 0 rfl rfl i_Ty t_Ty k_Ty n_Ty 8 (by decide) wt_346 (fun _ h => h) rfl hnm rfl rfl rfl (Nat.le_of_ble_eq_true rfl) d_Ty_init_21 (fun H locs hP hD hS => ?_)
  have hP : va_P D cls [(h, .inr (8, [.int (nI 5), .int (nI mn), .int (nI w), .int (nI (nsF w mn)), .int (nI (dgt w (hpF w mn))), .int (nI (hpF w mn)), .int (nI z), .int (nI a), .int (nI b)]))] H := hP
  have hD : va_D A [(h, .inr (8, [.int (nI 5), .int (nI mn), .int (nI w), .int (nI (nsF w mn)), .int (nI (dgt w (hpF w mn))), .int (nI (hpF w mn)), .int (nI z), .int (nI a), .int (nI b)]))] := hD
  exact ret_v C0 hr hlk hAe hS () trivial hP hD (Nat.le_of_ble_eq_true rfl) (Nat.le_of_ble_eq_true rfl) d_Ty_init_24
set_option maxHeartbeats 4000000 in
set_option maxRecDepth 100000 in
theorem c_Fi_init (l : Launch) (D : va_G) (cI : ClassId) (sz : Nat) (h : Nat) (mn : Nat) (w : Nat) (a : Nat) (b : Nat) (hmn : mn ≤ 6) (hw : w < 2147483648) : MetV l y_Fi_init b_Fi_init 5 { frames := 3, cells := 0, slots := 0, locals := 70 } D cI [] sz [(h, .inr (9, [.int (nI 0), .int (nI 0), .int (nI 0), .int (nI 0), .int (nI 0), .int (nI 0), .int (nI 0), .int (nI 0)]))] [.ref h, .int (nI mn), .int (nI w), .int (nI a), .int (nI b)] (fun (u : Unit) => True) (fun u : Unit => [(h, .inr (9, [.int (nI 6), .int (nI mn), .int (nI w), .int (nI (nsF w mn)), .int (nI (dgt w (hpF w mn))), .int (nI (hpF w mn)), .int (nI a), .int (nI b)]))]) := by
  refine enter (by decide) (Nat.le_of_ble_eq_true rfl) ?_
  intro p e s m below meth c A ls C0 hr hlk hnm hK hsz hA hAe hP hD hS hl
  have hx := C0.1
  have hb := C0.2.1
  have hl : lv_has ls 5 [(0, .ref h), (1, .int (nI mn)), (2, .int (nI w)), (3, .int (nI a)), (4, .int (nI b))] := hl
  refine lv_aload_n hx hb d_Fi_init_0 rfl (lv_at hl 0 rfl) ?_
  refine lv_bipush (v := (nI 6)) hx hb d_Fi_init_1 (by decide) ?_
  refine lv_iload_n hx hb d_Fi_init_3 rfl (lv_at hl 1 rfl) ?_
  refine lv_iload_n hx hb d_Fi_init_4 rfl (lv_at hl 2 rfl) ?_
  refine call_v (rm := { frames := 2, cells := 0, slots := 0, locals := 47 }) hS hP hD hA (spl_mk (wc := [(h, .inr (9, [.int (nI 0), .int (nI 0), .int (nI 0), .int (nI 0), .int (nI 0), .int (nI 0), .int (nI 0), .int (nI 0)]))]) (wr := []) [0] [] rfl rfl (by decide)) (run_I (n := 3) (As := [.int (nI 6), .int (nI mn), .int (nI w)]) (rest := []) C0 (hK.sub [] rfl) (c_Wa_init l D cI s.heap.size h 9 ([.int (nI 0), .int (nI 0)]) 6 mn w ⟨by decide, by decide⟩ (by omega) (by omega)) rfl wt_279 wt_8 wt_369 wt_278 (by decide +kernel) ⟨Nat.le_of_ble_eq_true rfl, Nat.le_of_ble_eq_true rfl⟩ rfl hl.1 rfl (Nat.le_of_ble_eq_true rfl) d_Fi_init_5 ⟨Nat.le_of_ble_eq_true rfl, Nat.le_of_ble_eq_true rfl⟩) (fun _u5 H locs hw_5 hP hD hS => ?_)
  have hP : va_P D cls [(h, .inr (9, [.int (nI 6), .int (nI mn), .int (nI w), .int (nI (nsF w mn)), .int (nI (dgt w (hpF w mn))), .int (nI (hpF w mn)), .int (nI 0), .int (nI 0)]))] H := hP
  have hD : va_D A [(h, .inr (9, [.int (nI 6), .int (nI mn), .int (nI w), .int (nI (nsF w mn)), .int (nI (dgt w (hpF w mn))), .int (nI (hpF w mn)), .int (nI 0), .int (nI 0)]))] := hD
  refine lv_aload_n hx hb d_Fi_init_8 rfl (lv_at hl 0 rfl) ?_
  refine lv_iload_n hx hb d_Fi_init_9 rfl (lv_at hl 3 rfl) ?_
  refine r_putF C0 hK hP hD hS 0 rfl rfl i_Fi t_Fi k_Fi n_Fi 6 (by decide) wt_370 (fun _ h => h) rfl hnm rfl rfl rfl (Nat.le_of_ble_eq_true rfl) d_Fi_init_10 (fun H locs hP hD hS => ?_)
  have hP : va_P D cls [(h, .inr (9, [.int (nI 6), .int (nI mn), .int (nI w), .int (nI (nsF w mn)), .int (nI (dgt w (hpF w mn))), .int (nI (hpF w mn)), .int (nI a), .int (nI 0)]))] H := hP
  have hD : va_D A [(h, .inr (9, [.int (nI 6), .int (nI mn), .int (nI w), .int (nI (nsF w mn)), .int (nI (dgt w (hpF w mn))), .int (nI (hpF w mn)), .int (nI a), .int (nI 0)]))] := hD
  refine lv_aload_n hx hb d_Fi_init_13 rfl (lv_at hl 0 rfl) ?_
  refine lv_iload hx hb d_Fi_init_14 (lv_at hl 4 rfl) ?_
  refine r_putF C0 hK hP hD hS 0 rfl rfl i_Fi t_Fi k_Fi n_Fi 7 (by decide) wt_371 (fun _ h => h) rfl hnm rfl rfl rfl (Nat.le_of_ble_eq_true rfl) d_Fi_init_16 (fun H locs hP hD hS => ?_)
  have hP : va_P D cls [(h, .inr (9, [.int (nI 6), .int (nI mn), .int (nI w), .int (nI (nsF w mn)), .int (nI (dgt w (hpF w mn))), .int (nI (hpF w mn)), .int (nI a), .int (nI b)]))] H := hP
  have hD : va_D A [(h, .inr (9, [.int (nI 6), .int (nI mn), .int (nI w), .int (nI (nsF w mn)), .int (nI (dgt w (hpF w mn))), .int (nI (hpF w mn)), .int (nI a), .int (nI b)]))] := hD
  exact ret_v C0 hr hlk hAe hS () trivial hP hD (Nat.le_of_ble_eq_true rfl) (Nat.le_of_ble_eq_true rfl) d_Fi_init_19
set_option maxHeartbeats 4000000 in
set_option maxRecDepth 100000 in
theorem c_Ta_init (l : Launch) (D : va_G) (cI : ClassId) (sz : Nat) (h : Nat) (mn : Nat) (w : Nat) (hmn : mn ≤ 6) (hw : w < 2147483648) : MetV l y_Ta_init b_Ta_init 3 { frames := 2, cells := 1, slots := 36, locals := 47 } D cI [] sz [(h, .inr (3, [.int (nI 0), .int (nI 0), .int (nI 0), .int (nI 0), .int (nI 0), .int (nI 0), .null, .int (nI 0)]))] [.ref h, .int (nI mn), .int (nI w)] (fun (u : Nat) => True) (fun u : Nat => [(h, .inr (3, [.int (nI 0), .int (nI mn), .int (nI w), .int (nI (nsF w mn)), .int (nI (dgt w (hpF w mn))), .int (nI (hpF w mn)), .ref u, .int (nI 0)])), (u, .inl (cI, 36, .inl (nA (fun _ => 0))))]) := by
  refine enter (by decide) (Nat.le_of_ble_eq_true rfl) ?_
  intro p e s m below meth c A ls C0 hr hlk hnm hK hsz hA hAe hP hD hS hl
  have hx := C0.1
  have hb := C0.2.1
  have hl : lv_has ls 3 [(0, .ref h), (1, .int (nI mn)), (2, .int (nI w))] := hl
  refine lv_aload_n hx hb d_Ta_init_0 rfl (lv_at hl 0 rfl) ?_
  refine lv_iconst (v := (nI 0)) hx hb d_Ta_init_1 (by decide) ?_
  refine lv_iload_n hx hb d_Ta_init_2 rfl (lv_at hl 1 rfl) ?_
  refine lv_iload_n hx hb d_Ta_init_3 rfl (lv_at hl 2 rfl) ?_
  refine call_v (rm := { frames := 1, cells := 0, slots := 0, locals := 21 }) hS hP hD hA (spl_mk (wc := [(h, .inr (3, [.int (nI 0), .int (nI 0), .int (nI 0), .int (nI 0), .int (nI 0), .int (nI 0), .null, .int (nI 0)]))]) (wr := []) [0] [] rfl rfl (by decide)) (run_I (n := 3) (As := [.int (nI 0), .int (nI mn), .int (nI w)]) (rest := []) C0 (hK.sub [] rfl) (c_Co_init l D cI s.heap.size h 3 ([.null, .int (nI 0)]) 0 mn w ⟨by decide, by decide⟩ (by omega) (by omega)) rfl wt_159 wt_5 wt_157 wt_158 (by decide +kernel) ⟨Nat.le_of_ble_eq_true rfl, Nat.le_of_ble_eq_true rfl⟩ rfl hl.1 rfl (Nat.le_of_ble_eq_true rfl) d_Ta_init_4 ⟨Nat.le_of_ble_eq_true rfl, Nat.le_of_ble_eq_true rfl⟩) (fun _u4 H locs hw_4 hP hD hS => ?_)
  have hP : va_P D cls [(h, .inr (3, [.int (nI 0), .int (nI mn), .int (nI w), .int (nI (nsF w mn)), .int (nI (dgt w (hpF w mn))), .int (nI (hpF w mn)), .null, .int (nI 0)]))] H := hP
  have hD : va_D A [(h, .inr (3, [.int (nI 0), .int (nI mn), .int (nI w), .int (nI (nsF w mn)), .int (nI (dgt w (hpF w mn))), .int (nI (hpF w mn)), .null, .int (nI 0)]))] := hD
  refine lv_aload_n hx hb d_Ta_init_7 rfl (lv_at hl 0 rfl) ?_
  refine lv_bipush (v := (nI 36)) hx hb d_Ta_init_8 (by decide) ?_
  refine r_newa C0 hK hP hD hS hA (by decide) (Nat.le_of_ble_eq_true rfl) (Nat.le_of_ble_eq_true rfl) d_Ta_init_10 (fun q10 H hP hD hS => ?_)
  have hP : va_P D cls [(h, .inr (3, [.int (nI 0), .int (nI mn), .int (nI w), .int (nI (nsF w mn)), .int (nI (dgt w (hpF w mn))), .int (nI (hpF w mn)), .null, .int (nI 0)])), (q10, .inl (cI, 36, .inl (nA (fun _ => 0))))] H := hP
  have hD : va_D A [(h, .inr (3, [.int (nI 0), .int (nI mn), .int (nI w), .int (nI (nsF w mn)), .int (nI (dgt w (hpF w mn))), .int (nI (hpF w mn)), .null, .int (nI 0)])), (q10, .inl (cI, 36, .inl (nA (fun _ => 0))))] := hD
  refine W.widen (k := 1) (n := 36) (Nat.le_of_ble_eq_true rfl) (Nat.le_of_ble_eq_true rfl) ?_
  refine r_putF C0 hK hP hD hS 0 rfl rfl i_Ta t_Ta k_Ta n_Ta 6 (by decide) wt_162 (fun _ h => h) rfl hnm rfl rfl rfl (Nat.le_of_ble_eq_true rfl) d_Ta_init_12 (fun H locs hP hD hS => ?_)
  have hP : va_P D cls [(h, .inr (3, [.int (nI 0), .int (nI mn), .int (nI w), .int (nI (nsF w mn)), .int (nI (dgt w (hpF w mn))), .int (nI (hpF w mn)), .ref q10, .int (nI 0)])), (q10, .inl (cI, 36, .inl (nA (fun _ => 0))))] H := hP
  have hD : va_D A [(h, .inr (3, [.int (nI 0), .int (nI mn), .int (nI w), .int (nI (nsF w mn)), .int (nI (dgt w (hpF w mn))), .int (nI (hpF w mn)), .ref q10, .int (nI 0)])), (q10, .inl (cI, 36, .inl (nA (fun _ => 0))))] := hD
  exact ret_v C0 hr hlk hAe hS q10 trivial hP hD (Nat.le_of_ble_eq_true rfl) (Nat.le_of_ble_eq_true rfl) d_Ta_init_15
set_option maxHeartbeats 4000000 in
set_option maxRecDepth 100000 in
theorem c_Ma_init (l : Launch) (D : va_G) (cI : ClassId) (sz : Nat) (h : Nat) (mn : Nat) (w : Nat) (a : Nat) (b : Nat) (hmn : mn ≤ 6) (hw : w < 2147483648) : MetV l y_Ma_init b_Ma_init 5 { frames := 2, cells := 2, slots := 37, locals := 47 } D cI [] sz [(h, .inr (4, [.int (nI 0), .int (nI 0), .int (nI 0), .int (nI 0), .int (nI 0), .int (nI 0), .int (nI 0), .int (nI 0), .null, .null]))] [.ref h, .int (nI mn), .int (nI w), .int (nI a), .int (nI b)] (fun (u : Nat × Nat) => True) (fun u : Nat × Nat => [(h, .inr (4, [.int (nI 1), .int (nI mn), .int (nI w), .int (nI (nsF w mn)), .int (nI (dgt w (hpF w mn))), .int (nI (hpF w mn)), .int (nI a), .int (nI b), .ref u.1, .ref u.2])), (u.1, .inl (cI, 30, .inl (nA (fun _ => 0)))), (u.2, .inl (cI, 7, .inl (nA (fun _ => 0))))]) := by
  refine enter (by decide) (Nat.le_of_ble_eq_true rfl) ?_
  intro p e s m below meth c A ls C0 hr hlk hnm hK hsz hA hAe hP hD hS hl
  have hx := C0.1
  have hb := C0.2.1
  have hl : lv_has ls 5 [(0, .ref h), (1, .int (nI mn)), (2, .int (nI w)), (3, .int (nI a)), (4, .int (nI b))] := hl
  refine lv_aload_n hx hb d_Ma_init_0 rfl (lv_at hl 0 rfl) ?_
  refine lv_iconst (v := (nI 1)) hx hb d_Ma_init_1 (by decide) ?_
  refine lv_iload_n hx hb d_Ma_init_2 rfl (lv_at hl 1 rfl) ?_
  refine lv_iload_n hx hb d_Ma_init_3 rfl (lv_at hl 2 rfl) ?_
  refine call_v (rm := { frames := 1, cells := 0, slots := 0, locals := 21 }) hS hP hD hA (spl_mk (wc := [(h, .inr (4, [.int (nI 0), .int (nI 0), .int (nI 0), .int (nI 0), .int (nI 0), .int (nI 0), .int (nI 0), .int (nI 0), .null, .null]))]) (wr := []) [0] [] rfl rfl (by decide)) (run_I (n := 3) (As := [.int (nI 1), .int (nI mn), .int (nI w)]) (rest := []) C0 (hK.sub [] rfl) (c_Co_init l D cI s.heap.size h 4 ([.int (nI 0), .int (nI 0), .null, .null]) 1 mn w ⟨by decide, by decide⟩ (by omega) (by omega)) rfl wt_159 wt_5 wt_236 wt_158 (by decide +kernel) ⟨Nat.le_of_ble_eq_true rfl, Nat.le_of_ble_eq_true rfl⟩ rfl hl.1 rfl (Nat.le_of_ble_eq_true rfl) d_Ma_init_4 ⟨Nat.le_of_ble_eq_true rfl, Nat.le_of_ble_eq_true rfl⟩) (fun _u4 H locs hw_4 hP hD hS => ?_)
  have hP : va_P D cls [(h, .inr (4, [.int (nI 1), .int (nI mn), .int (nI w), .int (nI (nsF w mn)), .int (nI (dgt w (hpF w mn))), .int (nI (hpF w mn)), .int (nI 0), .int (nI 0), .null, .null]))] H := hP
  have hD : va_D A [(h, .inr (4, [.int (nI 1), .int (nI mn), .int (nI w), .int (nI (nsF w mn)), .int (nI (dgt w (hpF w mn))), .int (nI (hpF w mn)), .int (nI 0), .int (nI 0), .null, .null]))] := hD
  refine lv_aload_n hx hb d_Ma_init_7 rfl (lv_at hl 0 rfl) ?_
  refine lv_bipush (v := (nI 30)) hx hb d_Ma_init_8 (by decide) ?_
  refine r_newa C0 hK hP hD hS hA (by decide) (Nat.le_of_ble_eq_true rfl) (Nat.le_of_ble_eq_true rfl) d_Ma_init_10 (fun q10 H hP hD hS => ?_)
  have hP : va_P D cls [(h, .inr (4, [.int (nI 1), .int (nI mn), .int (nI w), .int (nI (nsF w mn)), .int (nI (dgt w (hpF w mn))), .int (nI (hpF w mn)), .int (nI 0), .int (nI 0), .null, .null])), (q10, .inl (cI, 30, .inl (nA (fun _ => 0))))] H := hP
  have hD : va_D A [(h, .inr (4, [.int (nI 1), .int (nI mn), .int (nI w), .int (nI (nsF w mn)), .int (nI (dgt w (hpF w mn))), .int (nI (hpF w mn)), .int (nI 0), .int (nI 0), .null, .null])), (q10, .inl (cI, 30, .inl (nA (fun _ => 0))))] := hD
  refine W.widen (k := 1) (n := 30) (Nat.le_of_ble_eq_true rfl) (Nat.le_of_ble_eq_true rfl) ?_
  refine r_putF C0 hK hP hD hS 0 rfl rfl i_Ma t_Ma k_Ma n_Ma 8 (by decide) wt_239 (fun _ h => h) rfl hnm rfl rfl rfl (Nat.le_of_ble_eq_true rfl) d_Ma_init_12 (fun H locs hP hD hS => ?_)
  have hP : va_P D cls [(h, .inr (4, [.int (nI 1), .int (nI mn), .int (nI w), .int (nI (nsF w mn)), .int (nI (dgt w (hpF w mn))), .int (nI (hpF w mn)), .int (nI 0), .int (nI 0), .ref q10, .null])), (q10, .inl (cI, 30, .inl (nA (fun _ => 0))))] H := hP
  have hD : va_D A [(h, .inr (4, [.int (nI 1), .int (nI mn), .int (nI w), .int (nI (nsF w mn)), .int (nI (dgt w (hpF w mn))), .int (nI (hpF w mn)), .int (nI 0), .int (nI 0), .ref q10, .null])), (q10, .inl (cI, 30, .inl (nA (fun _ => 0))))] := hD
  refine lv_aload_n hx hb d_Ma_init_15 rfl (lv_at hl 0 rfl) ?_
  refine lv_bipush (v := (nI 7)) hx hb d_Ma_init_16 (by decide) ?_
  refine r_newa C0 hK hP hD hS hA (by decide) (Nat.le_of_ble_eq_true rfl) (Nat.le_of_ble_eq_true rfl) d_Ma_init_18 (fun q18 H hP hD hS => ?_)
  have hP : va_P D cls [(h, .inr (4, [.int (nI 1), .int (nI mn), .int (nI w), .int (nI (nsF w mn)), .int (nI (dgt w (hpF w mn))), .int (nI (hpF w mn)), .int (nI 0), .int (nI 0), .ref q10, .null])), (q10, .inl (cI, 30, .inl (nA (fun _ => 0)))), (q18, .inl (cI, 7, .inl (nA (fun _ => 0))))] H := hP
  have hD : va_D A [(h, .inr (4, [.int (nI 1), .int (nI mn), .int (nI w), .int (nI (nsF w mn)), .int (nI (dgt w (hpF w mn))), .int (nI (hpF w mn)), .int (nI 0), .int (nI 0), .ref q10, .null])), (q10, .inl (cI, 30, .inl (nA (fun _ => 0)))), (q18, .inl (cI, 7, .inl (nA (fun _ => 0))))] := hD
  refine W.widen (k := 2) (n := 37) (Nat.le_of_ble_eq_true rfl) (Nat.le_of_ble_eq_true rfl) ?_
  refine r_putF C0 hK hP hD hS 0 rfl rfl i_Ma t_Ma k_Ma n_Ma 9 (by decide) wt_240 (fun _ h => h) rfl hnm rfl rfl rfl (Nat.le_of_ble_eq_true rfl) d_Ma_init_20 (fun H locs hP hD hS => ?_)
  have hP : va_P D cls [(h, .inr (4, [.int (nI 1), .int (nI mn), .int (nI w), .int (nI (nsF w mn)), .int (nI (dgt w (hpF w mn))), .int (nI (hpF w mn)), .int (nI 0), .int (nI 0), .ref q10, .ref q18])), (q10, .inl (cI, 30, .inl (nA (fun _ => 0)))), (q18, .inl (cI, 7, .inl (nA (fun _ => 0))))] H := hP
  have hD : va_D A [(h, .inr (4, [.int (nI 1), .int (nI mn), .int (nI w), .int (nI (nsF w mn)), .int (nI (dgt w (hpF w mn))), .int (nI (hpF w mn)), .int (nI 0), .int (nI 0), .ref q10, .ref q18])), (q10, .inl (cI, 30, .inl (nA (fun _ => 0)))), (q18, .inl (cI, 7, .inl (nA (fun _ => 0))))] := hD
  refine lv_aload_n hx hb d_Ma_init_23 rfl (lv_at hl 0 rfl) ?_
  refine lv_iload_n hx hb d_Ma_init_24 rfl (lv_at hl 3 rfl) ?_
  refine r_putF C0 hK hP hD hS 0 rfl rfl i_Ma t_Ma k_Ma n_Ma 6 (by decide) wt_237 (fun _ h => h) rfl hnm rfl rfl rfl (Nat.le_of_ble_eq_true rfl) d_Ma_init_25 (fun H locs hP hD hS => ?_)
  have hP : va_P D cls [(h, .inr (4, [.int (nI 1), .int (nI mn), .int (nI w), .int (nI (nsF w mn)), .int (nI (dgt w (hpF w mn))), .int (nI (hpF w mn)), .int (nI a), .int (nI 0), .ref q10, .ref q18])), (q10, .inl (cI, 30, .inl (nA (fun _ => 0)))), (q18, .inl (cI, 7, .inl (nA (fun _ => 0))))] H := hP
  have hD : va_D A [(h, .inr (4, [.int (nI 1), .int (nI mn), .int (nI w), .int (nI (nsF w mn)), .int (nI (dgt w (hpF w mn))), .int (nI (hpF w mn)), .int (nI a), .int (nI 0), .ref q10, .ref q18])), (q10, .inl (cI, 30, .inl (nA (fun _ => 0)))), (q18, .inl (cI, 7, .inl (nA (fun _ => 0))))] := hD
  refine lv_aload_n hx hb d_Ma_init_28 rfl (lv_at hl 0 rfl) ?_
  refine lv_iload hx hb d_Ma_init_29 (lv_at hl 4 rfl) ?_
  refine r_putF C0 hK hP hD hS 0 rfl rfl i_Ma t_Ma k_Ma n_Ma 7 (by decide) wt_238 (fun _ h => h) rfl hnm rfl rfl rfl (Nat.le_of_ble_eq_true rfl) d_Ma_init_31 (fun H locs hP hD hS => ?_)
  have hP : va_P D cls [(h, .inr (4, [.int (nI 1), .int (nI mn), .int (nI w), .int (nI (nsF w mn)), .int (nI (dgt w (hpF w mn))), .int (nI (hpF w mn)), .int (nI a), .int (nI b), .ref q10, .ref q18])), (q10, .inl (cI, 30, .inl (nA (fun _ => 0)))), (q18, .inl (cI, 7, .inl (nA (fun _ => 0))))] H := hP
  have hD : va_D A [(h, .inr (4, [.int (nI 1), .int (nI mn), .int (nI w), .int (nI (nsF w mn)), .int (nI (dgt w (hpF w mn))), .int (nI (hpF w mn)), .int (nI a), .int (nI b), .ref q10, .ref q18])), (q10, .inl (cI, 30, .inl (nA (fun _ => 0)))), (q18, .inl (cI, 7, .inl (nA (fun _ => 0))))] := hD
  exact ret_v C0 hr hlk hAe hS (q10, q18) trivial hP hD (Nat.le_of_ble_eq_true rfl) (Nat.le_of_ble_eq_true rfl) d_Ma_init_34
set_option maxHeartbeats 4000000 in
set_option maxRecDepth 100000 in
theorem c_El_after (l : Launch) (D : va_G) (cI : ClassId) (sz : Nat) (h : Nat) (kd : Nat) (mn : Nat) (w : Nat) (ns : Nat) (hn : Nat) (hq : Nat) (x : Nat) (k : Nat) (v : Nat) (hmn : 3 ≤ mn ∧ mn ≤ 6) (hx0 : x < 1048576) (hk0 : k < 6) (hv0 : v < 6) : MetI l y_El_after b_El_after 5 (some .int) { frames := 1, cells := 0, slots := 0, locals := 21 } D cI [] sz [(h, .inr (5, [.int (nI kd), .int (nI mn), .int (nI w), .int (nI ns), .int (nI hn), .int (nI hq)]))] [.ref h, .int (nI x), .int (nI k), .int (nI v)] (fun (r : Int32) (u : Unit) => r = oI (aEl mn x k v)) (fun u : Unit => [(h, .inr (5, [.int (nI kd), .int (nI mn), .int (nI w), .int (nI ns), .int (nI hn), .int (nI hq)]))]) := by
  refine enter (by decide) (Nat.le_of_ble_eq_true rfl) ?_
  intro p e s m below meth c A ls C0 hr hlk hnm hK hsz hA hAe hP hD hS hl
  have hx := C0.1
  have hb := C0.2.1
  have hl : lv_has ls 5 [(0, .ref h), (1, .int (nI x)), (2, .int (nI k)), (3, .int (nI v))] := hl
  refine lv_iload_n hx hb d_El_after_0 rfl (lv_at hl 2 rfl) ?_
  refine z_ne (tgt := 20) hx hb (by omega) d_El_after_1 (by decide) (fun c_1 => ?_) (fun c_1 => ?_)
  · refine lv_iload_n hx hb d_El_after_20 rfl (lv_at hl 2 rfl) ?_
    refine lv_iconst (v := (nI 1)) hx hb d_El_after_21 (by decide) ?_
    refine b_ne (tgt := 31) hx hb (by omega) (by decide) d_El_after_22 (by decide) (fun c_22 => ?_) (fun c_22 => ?_)
    · refine lv_iload_n hx hb d_El_after_31 rfl (lv_at hl 2 rfl) ?_
      refine lv_iconst (v := (nI 2)) hx hb d_El_after_32 (by decide) ?_
      refine lv_isub hx hb d_El_after_33 ?_
      refine t_eq (y := (nI (k - 2))) (pk_sub (by omega)) ?_
      refine lv_iload_n hx hb d_El_after_34 rfl (lv_at hl 1 rfl) ?_
      refine lv_iconst (v := (nI 0)) hx hb d_El_after_35 (by decide) ?_
      refine call_i (rm := { frames := 0, cells := 0, slots := 0, locals := 0 }) hS hP hD hA (spl_mk (wc := []) (wr := [(h, .inr (5, [.int (nI kd), .int (nI mn), .int (nI w), .int (nI ns), .int (nI hn), .int (nI hq)]))]) [] [0] rfl rfl (by decide)) (run_sN (n := 2) (As := [.int (nI x), .int (nI 0)]) (rest := [.int (nI (k - 2))]) C0 (hK.sub [] rfl) (c_TC_digit l D cI s.heap.size x 0 (by omega) (by omega)) wt_140 wt_1 wn_466 wt_139 (by decide +kernel) ⟨Nat.le_of_ble_eq_true rfl, Nat.le_of_ble_eq_true rfl⟩ rfl hl.1 rfl (Nat.le_of_ble_eq_true rfl) d_El_after_36 ⟨Nat.le_of_ble_eq_true rfl, Nat.le_of_ble_eq_true rfl⟩) (fun r_36 _u36 H locs hw_36 hP hD hS => ?_)
      have hP : va_P D cls [(h, .inr (5, [.int (nI kd), .int (nI mn), .int (nI w), .int (nI ns), .int (nI hn), .int (nI hq)]))] H := hP
      have hD : va_D A [(h, .inr (5, [.int (nI kd), .int (nI mn), .int (nI w), .int (nI ns), .int (nI hn), .int (nI hq)]))] := hD
      subst hw_36
      have hd_36 := dgt_lt x 0
      refine b_ne (tgt := 46) hx hb (by omega) (by omega) d_El_after_39 (by decide) (fun c_39 => ?_) (fun c_39 => ?_)
      · refine lv_iconst (v := (nI 0)) hx hb d_El_after_46 (by decide) ?_
        refine lv_istore (lv' := [(4, .int (nI 0)), (0, .ref h), (1, .int (nI x)), (2, .int (nI k)), (3, .int (nI v))]) hx hb d_El_after_47 hl (by decide) rfl (fun ls hl => ?_)
        refine lv_iload hx hb d_El_after_49 (lv_at hl 0 rfl) ?_
        refine z_eq (tgt := 67) hx hb (by decide) d_El_after_51 (by decide) (fun c_51 => ?_) (fun c_51 => ?_)
        · refine lv_iload_n hx hb d_El_after_67 rfl (lv_at hl 2 rfl) ?_
          exact ret_i C0 hr hlk hAe hS () (by show _ = oI _; unfold aEl; (repeat' split) <;> first | rfl | (exfalso; omega)) hP hD rfl (Nat.le_of_ble_eq_true rfl) (Nat.le_of_ble_eq_true rfl) d_El_after_68
        · refine lv_iload_n hx hb d_El_after_54 rfl (lv_at hl 4 rfl) ?_
          refine lv_iload_n hx hb d_El_after_55 rfl (lv_at hl 2 rfl) ?_
          refine lv_iconst (v := (nI 1)) hx hb d_El_after_56 (by decide) ?_
          refine call_i (rm := { frames := 0, cells := 0, slots := 0, locals := 0 }) hS hP hD hA (spl_mk (wc := []) (wr := [(h, .inr (5, [.int (nI kd), .int (nI mn), .int (nI w), .int (nI ns), .int (nI hn), .int (nI hq)]))]) [] [0] rfl rfl (by decide)) (run_sN (n := 2) (As := [.int (nI x), .int (nI 1)]) (rest := [.int (nI v)]) C0 (hK.sub [] rfl) (c_TC_digit l D cI H.size x 1 (by omega) (by omega)) wt_140 wt_1 wn_466 wt_139 (by decide +kernel) ⟨Nat.le_of_ble_eq_true rfl, Nat.le_of_ble_eq_true rfl⟩ rfl hl.1 rfl (Nat.le_of_ble_eq_true rfl) d_El_after_57 ⟨Nat.le_of_ble_eq_true rfl, Nat.le_of_ble_eq_true rfl⟩) (fun r_57 _u57 H locs hw_57 hP hD hS => ?_)
          have hP : va_P D cls [(h, .inr (5, [.int (nI kd), .int (nI mn), .int (nI w), .int (nI ns), .int (nI hn), .int (nI hq)]))] H := hP
          have hD : va_D A [(h, .inr (5, [.int (nI kd), .int (nI mn), .int (nI w), .int (nI ns), .int (nI hn), .int (nI hq)]))] := hD
          subst hw_57
          have hd_57 := dgt_lt x 1
          refine b_eq (tgt := 67) hx hb (by omega) (by omega) d_El_after_60 (by decide) (fun c_60 => ?_) (fun c_60 => ?_)
          · refine lv_iload_n hx hb d_El_after_67 rfl (lv_at hl 2 rfl) ?_
            exact ret_i C0 hr hlk hAe hS () (by show _ = oI _; unfold aEl; (repeat' split) <;> first | rfl | (exfalso; omega)) hP hD rfl (Nat.le_of_ble_eq_true rfl) (Nat.le_of_ble_eq_true rfl) d_El_after_68
          · refine lv_iconst (v := (-1)) hx hb d_El_after_63 (by decide) ?_
            refine lv_goto (tgt := 68) hx hb d_El_after_64 (by decide) ?_
            exact ret_i C0 hr hlk hAe hS () (by show _ = oI _; unfold aEl; (repeat' split) <;> first | rfl | (exfalso; omega)) hP hD rfl (Nat.le_of_ble_eq_true rfl) (Nat.le_of_ble_eq_true rfl) d_El_after_68
      · refine lv_iconst (v := (nI 1)) hx hb d_El_after_42 (by decide) ?_
        refine lv_goto (tgt := 47) hx hb d_El_after_43 (by decide) ?_
        refine lv_istore (lv' := [(4, .int (nI 1)), (0, .ref h), (1, .int (nI x)), (2, .int (nI k)), (3, .int (nI v))]) hx hb d_El_after_47 hl (by decide) rfl (fun ls hl => ?_)
        refine lv_iload hx hb d_El_after_49 (lv_at hl 0 rfl) ?_
        refine z_eq (tgt := 67) hx hb (by decide) d_El_after_51 (by decide) (fun c_51 => ?_) (fun c_51 => ?_)
        · refine lv_iload_n hx hb d_El_after_67 rfl (lv_at hl 2 rfl) ?_
          exact ret_i C0 hr hlk hAe hS () (by show _ = oI _; unfold aEl; (repeat' split) <;> first | rfl | (exfalso; omega)) hP hD rfl (Nat.le_of_ble_eq_true rfl) (Nat.le_of_ble_eq_true rfl) d_El_after_68
        · refine lv_iload_n hx hb d_El_after_54 rfl (lv_at hl 4 rfl) ?_
          refine lv_iload_n hx hb d_El_after_55 rfl (lv_at hl 2 rfl) ?_
          refine lv_iconst (v := (nI 1)) hx hb d_El_after_56 (by decide) ?_
          refine call_i (rm := { frames := 0, cells := 0, slots := 0, locals := 0 }) hS hP hD hA (spl_mk (wc := []) (wr := [(h, .inr (5, [.int (nI kd), .int (nI mn), .int (nI w), .int (nI ns), .int (nI hn), .int (nI hq)]))]) [] [0] rfl rfl (by decide)) (run_sN (n := 2) (As := [.int (nI x), .int (nI 1)]) (rest := [.int (nI v)]) C0 (hK.sub [] rfl) (c_TC_digit l D cI H.size x 1 (by omega) (by omega)) wt_140 wt_1 wn_466 wt_139 (by decide +kernel) ⟨Nat.le_of_ble_eq_true rfl, Nat.le_of_ble_eq_true rfl⟩ rfl hl.1 rfl (Nat.le_of_ble_eq_true rfl) d_El_after_57 ⟨Nat.le_of_ble_eq_true rfl, Nat.le_of_ble_eq_true rfl⟩) (fun r_57 _u57 H locs hw_57 hP hD hS => ?_)
          have hP : va_P D cls [(h, .inr (5, [.int (nI kd), .int (nI mn), .int (nI w), .int (nI ns), .int (nI hn), .int (nI hq)]))] H := hP
          have hD : va_D A [(h, .inr (5, [.int (nI kd), .int (nI mn), .int (nI w), .int (nI ns), .int (nI hn), .int (nI hq)]))] := hD
          subst hw_57
          have hd_57 := dgt_lt x 1
          refine b_eq (tgt := 67) hx hb (by omega) (by omega) d_El_after_60 (by decide) (fun c_60 => ?_) (fun c_60 => ?_)
          · refine lv_iload_n hx hb d_El_after_67 rfl (lv_at hl 2 rfl) ?_
            exact ret_i C0 hr hlk hAe hS () (by show _ = oI _; unfold aEl; (repeat' split) <;> first | rfl | (exfalso; omega)) hP hD rfl (Nat.le_of_ble_eq_true rfl) (Nat.le_of_ble_eq_true rfl) d_El_after_68
          · refine lv_iconst (v := (-1)) hx hb d_El_after_63 (by decide) ?_
            refine lv_goto (tgt := 68) hx hb d_El_after_64 (by decide) ?_
            exact ret_i C0 hr hlk hAe hS () (by show _ = oI _; unfold aEl; (repeat' split) <;> first | rfl | (exfalso; omega)) hP hD rfl (Nat.le_of_ble_eq_true rfl) (Nat.le_of_ble_eq_true rfl) d_El_after_68
    · refine lv_iload_n hx hb d_El_after_25 rfl (lv_at hl 1 rfl) ?_
      refine lv_iload_n hx hb d_El_after_26 rfl (lv_at hl 3 rfl) ?_
      refine lv_iconst (v := (nI 3)) hx hb d_El_after_27 (by decide) ?_
      refine lv_ishl hx hb d_El_after_28 ?_
      refine t_eq (y := (nI (v * 2 ^ 3))) (m_shl _ (by decide)) ?_
      refine lv_ior hx hb d_El_after_29 ?_
      refine t_eq (y := (nI (x ||| (v * 2 ^ 3)))) (m_or _ _) ?_
      exact ret_i C0 hr hlk hAe hS () (by show _ = oI _; unfold aEl; (repeat' split) <;> first | rfl | (exfalso; omega)) hP hD rfl (Nat.le_of_ble_eq_true rfl) (Nat.le_of_ble_eq_true rfl) d_El_after_30
  · refine lv_iload_n hx hb d_El_after_4 rfl (lv_at hl 3 rfl) ?_
    refine lv_aload_n hx hb d_El_after_5 rfl (lv_at hl 0 rfl) ?_
    refine r_get C0 hK hP 0 rfl rfl i_El 1 (by decide) wt_169 (fun x h => u_same (C0.2.2.2.2 _ wt_170) x h) rfl d_El_after_6 ?_
    refine lv_iconst (v := (nI 2)) hx hb d_El_after_9 (by decide) ?_
    refine lv_isub hx hb d_El_after_10 ?_
    refine t_eq (y := (nI (mn - 2))) (pk_sub (by omega)) ?_
    refine b_ge (tgt := 18) hx hb (by omega) (by omega) d_El_after_11 (by decide) (fun c_11 => ?_) (fun c_11 => ?_)
    · refine lv_iconst (v := (-1)) hx hb d_El_after_18 (by decide) ?_
      exact ret_i C0 hr hlk hAe hS () (by show _ = oI _; unfold aEl; (repeat' split) <;> first | rfl | (exfalso; omega)) hP hD rfl (Nat.le_of_ble_eq_true rfl) (Nat.le_of_ble_eq_true rfl) d_El_after_19
    · refine lv_iload_n hx hb d_El_after_14 rfl (lv_at hl 3 rfl) ?_
      refine lv_goto (tgt := 19) hx hb d_El_after_15 (by decide) ?_
      exact ret_i C0 hr hlk hAe hS () (by show _ = oI _; unfold aEl; (repeat' split) <;> first | rfl | (exfalso; omega)) hP hD rfl (Nat.le_of_ble_eq_true rfl) (Nat.le_of_ble_eq_true rfl) d_El_after_19
set_option maxHeartbeats 4000000 in
set_option maxRecDepth 100000 in
theorem c_Or_after (l : Launch) (D : va_G) (cI : ClassId) (sz : Nat) (h : Nat) (kd : Nat) (mn : Nat) (w : Nat) (ns : Nat) (hn : Nat) (hq : Nat) (st : Bool) (x : Nat) (k : Nat) (v : Nat) (hmn : mn ≤ 6) (hx0 : x < 1048576) (hk0 : k < 6) (hv0 : v < 6) : MetI l y_Or_after b_Or_after 4 (some .int) { frames := 1, cells := 0, slots := 0, locals := 21 } D cI [] sz [(h, .inr (6, [.int (nI kd), .int (nI mn), .int (nI w), .int (nI ns), .int (nI hn), .int (nI hq), .int (bI st)]))] [.ref h, .int (nI x), .int (nI k), .int (nI v)] (fun (r : Int32) (u : Unit) => r = oI (aOr mn x k v)) (fun u : Unit => [(h, .inr (6, [.int (nI kd), .int (nI mn), .int (nI w), .int (nI ns), .int (nI hn), .int (nI hq), .int (bI st)]))]) := by
  refine enter (by decide) (Nat.le_of_ble_eq_true rfl) ?_
  intro p e s m below meth c A ls C0 hr hlk hnm hK hsz hA hAe hP hD hS hl
  have hx := C0.1
  have hb := C0.2.1
  have hl : lv_has ls 4 [(0, .ref h), (1, .int (nI x)), (2, .int (nI k)), (3, .int (nI v))] := hl
  refine lv_iload_n hx hb d_Or_after_0 rfl (lv_at hl 2 rfl) ?_
  refine lv_aload_n hx hb d_Or_after_1 rfl (lv_at hl 0 rfl) ?_
  refine r_get C0 hK hP 0 rfl rfl i_Or 1 (by decide) wt_167 (fun x h => u_same (C0.2.2.2.2 _ wt_168) x h) rfl d_Or_after_2 ?_
  refine lv_iconst (v := (nI 1)) hx hb d_Or_after_5 (by decide) ?_
  refine lv_ishr hx hb d_Or_after_6 ?_
  refine t_eq (y := (nI (mn / 2 ^ 1))) (m_shr (by omega) (by decide)) ?_
  refine b_ge (tgt := 18) hx hb (by omega) (by omega) d_Or_after_7 (by decide) (fun c_7 => ?_) (fun c_7 => ?_)
  · refine lv_iload_n hx hb d_Or_after_18 rfl (lv_at hl 1 rfl) ?_
    refine lv_bipush (v := (nI 63)) hx hb d_Or_after_19 (by decide) ?_
    refine b_eq (tgt := 33) hx hb (by omega) (by decide) d_Or_after_21 (by decide) (fun c_21 => ?_) (fun c_21 => ?_)
    · refine lv_bipush (v := (nI 63)) hx hb d_Or_after_33 (by decide) ?_
      exact ret_i C0 hr hlk hAe hS () (by show _ = oI _; unfold aOr; (repeat' split) <;> first | rfl | (exfalso; omega)) hP hD rfl (Nat.le_of_ble_eq_true rfl) (Nat.le_of_ble_eq_true rfl) d_Or_after_35
    · refine lv_iload_n hx hb d_Or_after_24 rfl (lv_at hl 1 rfl) ?_
      refine lv_iconst (v := (nI 0)) hx hb d_Or_after_25 (by decide) ?_
      refine call_i (rm := { frames := 0, cells := 0, slots := 0, locals := 0 }) hS hP hD hA (spl_mk (wc := []) (wr := [(h, .inr (6, [.int (nI kd), .int (nI mn), .int (nI w), .int (nI ns), .int (nI hn), .int (nI hq), .int (bI st)]))]) [] [0] rfl rfl (by decide)) (run_sN (n := 2) (As := [.int (nI x), .int (nI 0)]) (rest := []) C0 (hK.sub [] rfl) (c_TC_digit l D cI s.heap.size x 0 (by omega) (by omega)) wt_140 wt_1 wn_473 wt_139 (by decide +kernel) ⟨Nat.le_of_ble_eq_true rfl, Nat.le_of_ble_eq_true rfl⟩ rfl hl.1 rfl (Nat.le_of_ble_eq_true rfl) d_Or_after_26 ⟨Nat.le_of_ble_eq_true rfl, Nat.le_of_ble_eq_true rfl⟩) (fun r_26 _u26 H locs hw_26 hP hD hS => ?_)
      have hP : va_P D cls [(h, .inr (6, [.int (nI kd), .int (nI mn), .int (nI w), .int (nI ns), .int (nI hn), .int (nI hq), .int (bI st)]))] H := hP
      have hD : va_D A [(h, .inr (6, [.int (nI kd), .int (nI mn), .int (nI w), .int (nI ns), .int (nI hn), .int (nI hq), .int (bI st)]))] := hD
      subst hw_26
      have hd_26 := dgt_lt x 0
      refine lv_iload_n hx hb d_Or_after_29 rfl (lv_at hl 3 rfl) ?_
      refine b_ge (tgt := 36) hx hb (by omega) (by omega) d_Or_after_30 (by decide) (fun c_30 => ?_) (fun c_30 => ?_)
      · refine lv_iload_n hx hb d_Or_after_36 rfl (lv_at hl 1 rfl) ?_
        refine lv_iconst (v := (nI 0)) hx hb d_Or_after_37 (by decide) ?_
        refine call_i (rm := { frames := 0, cells := 0, slots := 0, locals := 0 }) hS hP hD hA (spl_mk (wc := []) (wr := [(h, .inr (6, [.int (nI kd), .int (nI mn), .int (nI w), .int (nI ns), .int (nI hn), .int (nI hq), .int (bI st)]))]) [] [0] rfl rfl (by decide)) (run_sN (n := 2) (As := [.int (nI x), .int (nI 0)]) (rest := []) C0 (hK.sub [] rfl) (c_TC_digit l D cI H.size x 0 (by omega) (by omega)) wt_140 wt_1 wn_473 wt_139 (by decide +kernel) ⟨Nat.le_of_ble_eq_true rfl, Nat.le_of_ble_eq_true rfl⟩ rfl hl.1 rfl (Nat.le_of_ble_eq_true rfl) d_Or_after_38 ⟨Nat.le_of_ble_eq_true rfl, Nat.le_of_ble_eq_true rfl⟩) (fun r_38 _u38 H locs hw_38 hP hD hS => ?_)
        have hP : va_P D cls [(h, .inr (6, [.int (nI kd), .int (nI mn), .int (nI w), .int (nI ns), .int (nI hn), .int (nI hq), .int (bI st)]))] H := hP
        have hD : va_D A [(h, .inr (6, [.int (nI kd), .int (nI mn), .int (nI w), .int (nI ns), .int (nI hn), .int (nI hq), .int (bI st)]))] := hD
        subst hw_38
        have hd_38 := dgt_lt x 0
        refine lv_iload_n hx hb d_Or_after_41 rfl (lv_at hl 3 rfl) ?_
        refine b_le (tgt := 49) hx hb (by omega) (by omega) d_Or_after_42 (by decide) (fun c_42 => ?_) (fun c_42 => ?_)
        · refine lv_iload_n hx hb d_Or_after_49 rfl (lv_at hl 1 rfl) ?_
          refine lv_iconst (v := (nI 3)) hx hb d_Or_after_50 (by decide) ?_
          refine lv_iushr (v := (nI (x / 2 ^ 3))) hx hb d_Or_after_51 (m_ushr (by omega) (by decide)) ?_
          exact ret_i C0 hr hlk hAe hS () (by show _ = oI _; unfold aOr; (repeat' split) <;> first | rfl | (exfalso; omega)) hP hD rfl (Nat.le_of_ble_eq_true rfl) (Nat.le_of_ble_eq_true rfl) d_Or_after_52
        · refine lv_iconst (v := (-1)) hx hb d_Or_after_45 (by decide) ?_
          refine lv_goto (tgt := 52) hx hb d_Or_after_46 (by decide) ?_
          exact ret_i C0 hr hlk hAe hS () (by show _ = oI _; unfold aOr; (repeat' split) <;> first | rfl | (exfalso; omega)) hP hD rfl (Nat.le_of_ble_eq_true rfl) (Nat.le_of_ble_eq_true rfl) d_Or_after_52
      · refine lv_bipush (v := (nI 63)) hx hb d_Or_after_33 (by decide) ?_
        exact ret_i C0 hr hlk hAe hS () (by show _ = oI _; unfold aOr; (repeat' split) <;> first | rfl | (exfalso; omega)) hP hD rfl (Nat.le_of_ble_eq_true rfl) (Nat.le_of_ble_eq_true rfl) d_Or_after_35
  · refine lv_iload_n hx hb d_Or_after_10 rfl (lv_at hl 1 rfl) ?_
    refine lv_iload_n hx hb d_Or_after_11 rfl (lv_at hl 3 rfl) ?_
    refine lv_iconst (v := (nI 3)) hx hb d_Or_after_12 (by decide) ?_
    refine lv_iload_n hx hb d_Or_after_13 rfl (lv_at hl 2 rfl) ?_
    refine lv_imul hx hb d_Or_after_14 ?_
    refine t_eq (y := (nI (3 * k))) (pk_mul _ _) ?_
    refine lv_ishl hx hb d_Or_after_15 ?_
    refine t_eq (y := (nI (v * 2 ^ (3 * k)))) (m_shl _ (by omega)) ?_
    refine lv_ior hx hb d_Or_after_16 ?_
    refine t_eq (y := (nI (x ||| (v * 2 ^ (3 * k))))) (m_or _ _) ?_
    exact ret_i C0 hr hlk hAe hS () (by show _ = oI _; unfold aOr; (repeat' split) <;> first | rfl | (exfalso; omega)) hP hD rfl (Nat.le_of_ble_eq_true rfl) (Nat.le_of_ble_eq_true rfl) d_Or_after_17
set_option maxHeartbeats 4000000 in
set_option maxRecDepth 100000 in
theorem c_Su_after (l : Launch) (D : va_G) (cI : ClassId) (sz : Nat) (h : Nat) (kd : Nat) (mn : Nat) (w : Nat) (ns : Nat) (hn : Nat) (hq : Nat) (a : Nat) (b : Nat) (x : Nat) (k : Nat) (v : Nat) (hb0 : b ≤ 30) (hx0 : x < 1048576) (hk0 : k < 6) (hv0 : v < 6) : MetI l y_Su_after b_Su_after 4 (some .int) { frames := 0, cells := 0, slots := 0, locals := 0 } D cI [] sz [(h, .inr (7, [.int (nI kd), .int (nI mn), .int (nI w), .int (nI ns), .int (nI hn), .int (nI hq), .int (nI a), .int (nI b)]))] [.ref h, .int (nI x), .int (nI k), .int (nI v)] (fun (r : Int32) (u : Unit) => r = oI (aSu b x v)) (fun u : Unit => [(h, .inr (7, [.int (nI kd), .int (nI mn), .int (nI w), .int (nI ns), .int (nI hn), .int (nI hq), .int (nI a), .int (nI b)]))]) := by
  refine enter (by decide) (Nat.le_of_ble_eq_true rfl) ?_
  intro p e s m below meth c A ls C0 hr hlk hnm hK hsz hA hAe hP hD hS hl
  have hx := C0.1
  have hb := C0.2.1
  have hl : lv_has ls 4 [(0, .ref h), (1, .int (nI x)), (2, .int (nI k)), (3, .int (nI v))] := hl
  refine lv_iload_n hx hb d_Su_after_0 rfl (lv_at hl 1 rfl) ?_
  refine lv_iload_n hx hb d_Su_after_1 rfl (lv_at hl 3 rfl) ?_
  refine lv_iadd hx hb d_Su_after_2 ?_
  refine t_eq (y := (nI (x + v))) (nI_add _ _) ?_
  refine lv_aload_n hx hb d_Su_after_3 rfl (lv_at hl 0 rfl) ?_
  refine r_get C0 hK hP 0 rfl rfl i_Su 7 (by decide) wt_322 (fun _ h => h) rfl d_Su_after_4 ?_
  refine b_le (tgt := 14) hx hb (by omega) (by omega) d_Su_after_7 (by decide) (fun c_7 => ?_) (fun c_7 => ?_)
  · refine lv_iload_n hx hb d_Su_after_14 rfl (lv_at hl 1 rfl) ?_
    refine lv_iload_n hx hb d_Su_after_15 rfl (lv_at hl 3 rfl) ?_
    refine lv_iadd hx hb d_Su_after_16 ?_
    refine t_eq (y := (nI (x + v))) (nI_add _ _) ?_
    exact ret_i C0 hr hlk hAe hS () (by show _ = oI _; unfold aSu; (repeat' split) <;> first | rfl | (exfalso; omega)) hP hD rfl (Nat.le_of_ble_eq_true rfl) (Nat.le_of_ble_eq_true rfl) d_Su_after_17
  · refine lv_iconst (v := (-1)) hx hb d_Su_after_10 (by decide) ?_
    refine lv_goto (tgt := 17) hx hb d_Su_after_11 (by decide) ?_
    exact ret_i C0 hr hlk hAe hS () (by show _ = oI _; unfold aSu; (repeat' split) <;> first | rfl | (exfalso; omega)) hP hD rfl (Nat.le_of_ble_eq_true rfl) (Nat.le_of_ble_eq_true rfl) d_Su_after_17
set_option maxHeartbeats 4000000 in
set_option maxRecDepth 100000 in
theorem c_Ty_after (l : Launch) (D : va_G) (cI : ClassId) (sz : Nat) (h : Nat) (kd : Nat) (mn : Nat) (w : Nat) (ns : Nat) (hn : Nat) (hq : Nat) (z : Nat) (a : Nat) (b : Nat) (x : Nat) (k : Nat) (v : Nat) (hz0 : z < 6) (hx0 : x < 1048576) (hk0 : k < 6) (hv0 : v < 6) : MetI l y_Ty_after b_Ty_after 4 (some .int) { frames := 0, cells := 0, slots := 0, locals := 0 } D cI [] sz [(h, .inr (8, [.int (nI kd), .int (nI mn), .int (nI w), .int (nI ns), .int (nI hn), .int (nI hq), .int (nI z), .int (nI a), .int (nI b)]))] [.ref h, .int (nI x), .int (nI k), .int (nI v)] (fun (r : Int32) (u : Unit) => r = oI (aTy z x v)) (fun u : Unit => [(h, .inr (8, [.int (nI kd), .int (nI mn), .int (nI w), .int (nI ns), .int (nI hn), .int (nI hq), .int (nI z), .int (nI a), .int (nI b)]))]) := by
  refine enter (by decide) (Nat.le_of_ble_eq_true rfl) ?_
  intro p e s m below meth c A ls C0 hr hlk hnm hK hsz hA hAe hP hD hS hl
  have hx := C0.1
  have hb := C0.2.1
  have hl : lv_has ls 4 [(0, .ref h), (1, .int (nI x)), (2, .int (nI k)), (3, .int (nI v))] := hl
  refine lv_iload_n hx hb d_Ty_after_0 rfl (lv_at hl 3 rfl) ?_
  refine lv_aload_n hx hb d_Ty_after_1 rfl (lv_at hl 0 rfl) ?_
  refine r_get C0 hK hP 0 rfl rfl i_Ty 6 (by decide) wt_344 (fun _ h => h) rfl d_Ty_after_2 ?_
  refine b_ne (tgt := 14) hx hb (by omega) (by omega) d_Ty_after_5 (by decide) (fun c_5 => ?_) (fun c_5 => ?_)
  · refine lv_iload_n hx hb d_Ty_after_14 rfl (lv_at hl 1 rfl) ?_
    exact ret_i C0 hr hlk hAe hS () (by show _ = oI _; unfold aTy; (repeat' split) <;> first | rfl | (exfalso; omega)) hP hD rfl (Nat.le_of_ble_eq_true rfl) (Nat.le_of_ble_eq_true rfl) d_Ty_after_15
  · refine lv_iload_n hx hb d_Ty_after_8 rfl (lv_at hl 1 rfl) ?_
    refine lv_iconst (v := (nI 1)) hx hb d_Ty_after_9 (by decide) ?_
    refine lv_iadd hx hb d_Ty_after_10 ?_
    refine t_eq (y := (nI (x + 1))) (nI_add _ _) ?_
    refine lv_goto (tgt := 15) hx hb d_Ty_after_11 (by decide) ?_
    exact ret_i C0 hr hlk hAe hS () (by show _ = oI _; unfold aTy; (repeat' split) <;> first | rfl | (exfalso; omega)) hP hD rfl (Nat.le_of_ble_eq_true rfl) (Nat.le_of_ble_eq_true rfl) d_Ty_after_15
set_option maxHeartbeats 4000000 in
set_option maxRecDepth 100000 in
theorem c_Fi_after (l : Launch) (D : va_G) (cI : ClassId) (sz : Nat) (h : Nat) (kd : Nat) (mn : Nat) (w : Nat) (ns : Nat) (hn : Nat) (hq : Nat) (a : Nat) (b : Nat) (x : Nat) (k : Nat) (v : Nat) (ha0 : a < 6) (hb0 : b < 6) (hx0 : x < 1048576) (hk0 : k < 6) (hv0 : v < 6) : MetI l y_Fi_after b_Fi_after 4 (some .int) { frames := 0, cells := 0, slots := 0, locals := 0 } D cI [] sz [(h, .inr (9, [.int (nI kd), .int (nI mn), .int (nI w), .int (nI ns), .int (nI hn), .int (nI hq), .int (nI a), .int (nI b)]))] [.ref h, .int (nI x), .int (nI k), .int (nI v)] (fun (r : Int32) (u : Unit) => r = oI (aFi a b x v)) (fun u : Unit => [(h, .inr (9, [.int (nI kd), .int (nI mn), .int (nI w), .int (nI ns), .int (nI hn), .int (nI hq), .int (nI a), .int (nI b)]))]) := by
  refine enter (by decide) (Nat.le_of_ble_eq_true rfl) ?_
  intro p e s m below meth c A ls C0 hr hlk hnm hK hsz hA hAe hP hD hS hl
  have hx := C0.1
  have hb := C0.2.1
  have hl : lv_has ls 4 [(0, .ref h), (1, .int (nI x)), (2, .int (nI k)), (3, .int (nI v))] := hl
  refine lv_iload_n hx hb d_Fi_after_0 rfl (lv_at hl 3 rfl) ?_
  refine lv_aload_n hx hb d_Fi_after_1 rfl (lv_at hl 0 rfl) ?_
  refine r_get C0 hK hP 0 rfl rfl i_Fi 7 (by decide) wt_371 (fun _ h => h) rfl d_Fi_after_2 ?_
  refine b_ne (tgt := 14) hx hb (by omega) (by omega) d_Fi_after_5 (by decide) (fun c_5 => ?_) (fun c_5 => ?_)
  · refine lv_iload_n hx hb d_Fi_after_14 rfl (lv_at hl 3 rfl) ?_
    refine lv_aload_n hx hb d_Fi_after_15 rfl (lv_at hl 0 rfl) ?_
    refine r_get C0 hK hP 0 rfl rfl i_Fi 6 (by decide) wt_370 (fun _ h => h) rfl d_Fi_after_16 ?_
    refine b_ne (tgt := 26) hx hb (by omega) (by omega) d_Fi_after_19 (by decide) (fun c_19 => ?_) (fun c_19 => ?_)
    · refine lv_iload_n hx hb d_Fi_after_26 rfl (lv_at hl 1 rfl) ?_
      exact ret_i C0 hr hlk hAe hS () (by show _ = oI _; unfold aFi; (repeat' split) <;> first | rfl | (exfalso; omega)) hP hD rfl (Nat.le_of_ble_eq_true rfl) (Nat.le_of_ble_eq_true rfl) d_Fi_after_27
    · refine lv_iconst (v := (nI 1)) hx hb d_Fi_after_22 (by decide) ?_
      refine lv_goto (tgt := 27) hx hb d_Fi_after_23 (by decide) ?_
      exact ret_i C0 hr hlk hAe hS () (by show _ = oI _; unfold aFi; (repeat' split) <;> first | rfl | (exfalso; omega)) hP hD rfl (Nat.le_of_ble_eq_true rfl) (Nat.le_of_ble_eq_true rfl) d_Fi_after_27
  · refine lv_iload_n hx hb d_Fi_after_8 rfl (lv_at hl 1 rfl) ?_
    refine z_ne (tgt := 14) hx hb (by omega) d_Fi_after_9 (by decide) (fun c_9 => ?_) (fun c_9 => ?_)
    · refine lv_iload_n hx hb d_Fi_after_14 rfl (lv_at hl 3 rfl) ?_
      refine lv_aload_n hx hb d_Fi_after_15 rfl (lv_at hl 0 rfl) ?_
      refine r_get C0 hK hP 0 rfl rfl i_Fi 6 (by decide) wt_370 (fun _ h => h) rfl d_Fi_after_16 ?_
      refine b_ne (tgt := 26) hx hb (by omega) (by omega) d_Fi_after_19 (by decide) (fun c_19 => ?_) (fun c_19 => ?_)
      · refine lv_iload_n hx hb d_Fi_after_26 rfl (lv_at hl 1 rfl) ?_
        exact ret_i C0 hr hlk hAe hS () (by show _ = oI _; unfold aFi; (repeat' split) <;> first | rfl | (exfalso; omega)) hP hD rfl (Nat.le_of_ble_eq_true rfl) (Nat.le_of_ble_eq_true rfl) d_Fi_after_27
      · refine lv_iconst (v := (nI 1)) hx hb d_Fi_after_22 (by decide) ?_
        refine lv_goto (tgt := 27) hx hb d_Fi_after_23 (by decide) ?_
        exact ret_i C0 hr hlk hAe hS () (by show _ = oI _; unfold aFi; (repeat' split) <;> first | rfl | (exfalso; omega)) hP hD rfl (Nat.le_of_ble_eq_true rfl) (Nat.le_of_ble_eq_true rfl) d_Fi_after_27
    · refine lv_iconst (v := (-1)) hx hb d_Fi_after_12 (by decide) ?_
      exact ret_i C0 hr hlk hAe hS () (by show _ = oI _; unfold aFi; (repeat' split) <;> first | rfl | (exfalso; omega)) hP hD rfl (Nat.le_of_ble_eq_true rfl) (Nat.le_of_ble_eq_true rfl) d_Fi_after_13
set_option maxHeartbeats 4000000 in
set_option maxRecDepth 100000 in
theorem c_El_isGoodAtEnd (l : Launch) (D : va_G) (cI : ClassId) (sz : Nat) (h : Nat) (kd : Nat) (mn : Nat) (w : Nat) (ns : Nat) (hn : Nat) (hq : Nat) (x : Nat) (hx0 : x < 1048576) : MetI l y_El_isGoodAtEnd b_El_isGoodAtEnd 2 (some .boolean) { frames := 0, cells := 0, slots := 0, locals := 0 } D cI [] sz [(h, .inr (5, [.int (nI kd), .int (nI mn), .int (nI w), .int (nI ns), .int (nI hn), .int (nI hq)]))] [.ref h, .int (nI x)] (fun (r : Int32) (u : Unit) => r = (bI true)) (fun u : Unit => [(h, .inr (5, [.int (nI kd), .int (nI mn), .int (nI w), .int (nI ns), .int (nI hn), .int (nI hq)]))]) := by
  refine enter (by decide) (Nat.le_of_ble_eq_true rfl) ?_
  intro p e s m below meth c A ls C0 hr hlk hnm hK hsz hA hAe hP hD hS hl
  have hx := C0.1
  have hb := C0.2.1
  have hl : lv_has ls 2 [(0, .ref h), (1, .int (nI x))] := hl
  refine lv_iconst (v := (nI 1)) hx hb d_El_isGoodAtEnd_0 (by decide) ?_
  exact ret_i C0 hr hlk hAe hS () rfl hP hD rfl (Nat.le_of_ble_eq_true rfl) (Nat.le_of_ble_eq_true rfl) d_El_isGoodAtEnd_1
set_option maxHeartbeats 4000000 in
set_option maxRecDepth 100000 in
theorem c_Or_isGoodAtEnd (l : Launch) (D : va_G) (cI : ClassId) (sz : Nat) (h : Nat) (kd : Nat) (mn : Nat) (w : Nat) (ns : Nat) (hn : Nat) (hq : Nat) (st : Bool) (x : Nat) (hx0 : x < 1048576) : MetI l y_Or_isGoodAtEnd b_Or_isGoodAtEnd 2 (some .boolean) { frames := 0, cells := 0, slots := 0, locals := 0 } D cI [] sz [(h, .inr (6, [.int (nI kd), .int (nI mn), .int (nI w), .int (nI ns), .int (nI hn), .int (nI hq), .int (bI st)]))] [.ref h, .int (nI x)] (fun (r : Int32) (u : Unit) => r = (bI (decide (x = 63) || !st))) (fun u : Unit => [(h, .inr (6, [.int (nI kd), .int (nI mn), .int (nI w), .int (nI ns), .int (nI hn), .int (nI hq), .int (bI st)]))]) := by
  refine enter (by decide) (Nat.le_of_ble_eq_true rfl) ?_
  intro p e s m below meth c A ls C0 hr hlk hnm hK hsz hA hAe hP hD hS hl
  have hx := C0.1
  have hb := C0.2.1
  have hl : lv_has ls 2 [(0, .ref h), (1, .int (nI x))] := hl
  refine lv_iload_n hx hb d_Or_isGoodAtEnd_0 rfl (lv_at hl 1 rfl) ?_
  refine lv_bipush (v := (nI 63)) hx hb d_Or_isGoodAtEnd_1 (by decide) ?_
  refine b_eq (tgt := 13) hx hb (by omega) (by decide) d_Or_isGoodAtEnd_3 (by decide) (fun c_3 => ?_) (fun c_3 => ?_)
  · refine lv_iconst (v := (nI 1)) hx hb d_Or_isGoodAtEnd_13 (by decide) ?_
    refine lv_goto (tgt := 18) hx hb d_Or_isGoodAtEnd_14 (by decide) ?_
    exact ret_i C0 hr hlk hAe hS () (by first | (rw [c_10, decide_eq_false c_3]; rfl) | (rw [decide_eq_true c_3]; rfl)) hP hD rfl (Nat.le_of_ble_eq_true rfl) (Nat.le_of_ble_eq_true rfl) d_Or_isGoodAtEnd_18
  · refine lv_aload_n hx hb d_Or_isGoodAtEnd_6 rfl (lv_at hl 0 rfl) ?_
    refine r_get C0 hK hP 0 rfl rfl i_Or 6 (by decide) wt_298 (fun _ h => h) rfl d_Or_isGoodAtEnd_7 ?_
    refine y_ne (tgt := 17) hx hb d_Or_isGoodAtEnd_10 (by decide) (fun c_10 => ?_) (fun c_10 => ?_)
    · refine lv_iconst (v := (nI 0)) hx hb d_Or_isGoodAtEnd_17 (by decide) ?_
      exact ret_i C0 hr hlk hAe hS () (by first | (rw [c_10, decide_eq_false c_3]; rfl) | (rw [decide_eq_true c_3]; rfl)) hP hD rfl (Nat.le_of_ble_eq_true rfl) (Nat.le_of_ble_eq_true rfl) d_Or_isGoodAtEnd_18
    · refine lv_iconst (v := (nI 1)) hx hb d_Or_isGoodAtEnd_13 (by decide) ?_
      refine lv_goto (tgt := 18) hx hb d_Or_isGoodAtEnd_14 (by decide) ?_
      exact ret_i C0 hr hlk hAe hS () (by first | (rw [c_10, decide_eq_false c_3]; rfl) | (rw [decide_eq_true c_3]; rfl)) hP hD rfl (Nat.le_of_ble_eq_true rfl) (Nat.le_of_ble_eq_true rfl) d_Or_isGoodAtEnd_18
set_option maxHeartbeats 4000000 in
set_option maxRecDepth 100000 in
theorem c_Su_isGoodAtEnd (l : Launch) (D : va_G) (cI : ClassId) (sz : Nat) (h : Nat) (kd : Nat) (mn : Nat) (w : Nat) (ns : Nat) (hn : Nat) (hq : Nat) (a : Nat) (b : Nat) (x : Nat) (hx0 : x < 1048576) (hab : a < 64 ∧ b < 64) : MetI l y_Su_isGoodAtEnd b_Su_isGoodAtEnd 2 (some .boolean) { frames := 1, cells := 0, slots := 0, locals := 22 } D cI [] sz [(h, .inr (7, [.int (nI kd), .int (nI mn), .int (nI w), .int (nI ns), .int (nI hn), .int (nI hq), .int (nI a), .int (nI b)]))] [.ref h, .int (nI x)] (fun (r : Int32) (u : Unit) => r = (bI (decide (a ≤ x) && decide (x ≤ b)))) (fun u : Unit => [(h, .inr (7, [.int (nI kd), .int (nI mn), .int (nI w), .int (nI ns), .int (nI hn), .int (nI hq), .int (nI a), .int (nI b)]))]) := by
  refine enter (by decide) (Nat.le_of_ble_eq_true rfl) ?_
  intro p e s m below meth c A ls C0 hr hlk hnm hK hsz hA hAe hP hD hS hl
  have hx := C0.1
  have hb := C0.2.1
  have hl : lv_has ls 2 [(0, .ref h), (1, .int (nI x))] := hl
  refine lv_iload_n hx hb d_Su_isGoodAtEnd_0 rfl (lv_at hl 1 rfl) ?_
  refine lv_aload_n hx hb d_Su_isGoodAtEnd_1 rfl (lv_at hl 0 rfl) ?_
  refine r_get C0 hK hP 0 rfl rfl i_Su 6 (by decide) wt_321 (fun _ h => h) rfl d_Su_isGoodAtEnd_2 ?_
  refine lv_aload_n hx hb d_Su_isGoodAtEnd_5 rfl (lv_at hl 0 rfl) ?_
  refine r_get C0 hK hP 0 rfl rfl i_Su 7 (by decide) wt_322 (fun _ h => h) rfl d_Su_isGoodAtEnd_6 ?_
  refine call_i (rm := { frames := 0, cells := 0, slots := 0, locals := 0 }) hS hP hD hA (spl_mk (wc := []) (wr := [(h, .inr (7, [.int (nI kd), .int (nI mn), .int (nI w), .int (nI ns), .int (nI hn), .int (nI hq), .int (nI a), .int (nI b)]))]) [] [0] rfl rfl (by decide)) (run_sN (n := 3) (As := [.int (nI x), .int (nI a), .int (nI b)]) (rest := []) C0 (hK.sub [] rfl) (c_TC_isIn l D cI s.heap.size (nI x) (nI a) (nI b)) wt_125 wt_1 wn_446 wt_124 (by decide +kernel) ⟨Nat.le_of_ble_eq_true rfl, Nat.le_of_ble_eq_true rfl⟩ rfl hl.1 rfl (Nat.le_of_ble_eq_true rfl) d_Su_isGoodAtEnd_9 ⟨Nat.le_of_ble_eq_true rfl, Nat.le_of_ble_eq_true rfl⟩) (fun r_9 _u9 H locs hw_9 hP hD hS => ?_)
  have hP : va_P D cls [(h, .inr (7, [.int (nI kd), .int (nI mn), .int (nI w), .int (nI ns), .int (nI hn), .int (nI hq), .int (nI a), .int (nI b)]))] H := hP
  have hD : va_D A [(h, .inr (7, [.int (nI kd), .int (nI mn), .int (nI w), .int (nI ns), .int (nI hn), .int (nI hq), .int (nI a), .int (nI b)]))] := hD
  subst hw_9
  refine t_eq (y := (bI (decide (a ≤ x) && decide (x ≤ b)))) (by rw [decide_eq_decide.mpr (nI_leI (by omega) (by omega)), decide_eq_decide.mpr (nI_leI (by omega) (by omega))]) ?_
  exact ret_i C0 hr hlk hAe hS () rfl hP hD (bI_n _) (Nat.le_of_ble_eq_true rfl) (Nat.le_of_ble_eq_true rfl) d_Su_isGoodAtEnd_12
set_option maxHeartbeats 4000000 in
set_option maxRecDepth 100000 in
theorem c_Ty_isGoodAtEnd (l : Launch) (D : va_G) (cI : ClassId) (sz : Nat) (h : Nat) (kd : Nat) (mn : Nat) (w : Nat) (ns : Nat) (hn : Nat) (hq : Nat) (z : Nat) (a : Nat) (b : Nat) (x : Nat) (hx0 : x < 1048576) (hab : a < 64 ∧ b < 64) : MetI l y_Ty_isGoodAtEnd b_Ty_isGoodAtEnd 2 (some .boolean) { frames := 1, cells := 0, slots := 0, locals := 22 } D cI [] sz [(h, .inr (8, [.int (nI kd), .int (nI mn), .int (nI w), .int (nI ns), .int (nI hn), .int (nI hq), .int (nI z), .int (nI a), .int (nI b)]))] [.ref h, .int (nI x)] (fun (r : Int32) (u : Unit) => r = (bI (decide (a ≤ x) && decide (x ≤ b)))) (fun u : Unit => [(h, .inr (8, [.int (nI kd), .int (nI mn), .int (nI w), .int (nI ns), .int (nI hn), .int (nI hq), .int (nI z), .int (nI a), .int (nI b)]))]) := by
  refine enter (by decide) (Nat.le_of_ble_eq_true rfl) ?_
  intro p e s m below meth c A ls C0 hr hlk hnm hK hsz hA hAe hP hD hS hl
  have hx := C0.1
  have hb := C0.2.1
  have hl : lv_has ls 2 [(0, .ref h), (1, .int (nI x))] := hl
  refine lv_iload_n hx hb d_Ty_isGoodAtEnd_0 rfl (lv_at hl 1 rfl) ?_
  refine lv_aload_n hx hb d_Ty_isGoodAtEnd_1 rfl (lv_at hl 0 rfl) ?_
  refine r_get C0 hK hP 0 rfl rfl i_Ty 7 (by decide) wt_345 (fun _ h => h) rfl d_Ty_isGoodAtEnd_2 ?_
  refine lv_aload_n hx hb d_Ty_isGoodAtEnd_5 rfl (lv_at hl 0 rfl) ?_
  refine r_get C0 hK hP 0 rfl rfl i_Ty 8 (by decide) wt_346 (fun _ h => h) rfl d_Ty_isGoodAtEnd_6 ?_
  refine call_i (rm := { frames := 0, cells := 0, slots := 0, locals := 0 }) hS hP hD hA (spl_mk (wc := []) (wr := [(h, .inr (8, [.int (nI kd), .int (nI mn), .int (nI w), .int (nI ns), .int (nI hn), .int (nI hq), .int (nI z), .int (nI a), .int (nI b)]))]) [] [0] rfl rfl (by decide)) (run_sN (n := 3) (As := [.int (nI x), .int (nI a), .int (nI b)]) (rest := []) C0 (hK.sub [] rfl) (c_TC_isIn l D cI s.heap.size (nI x) (nI a) (nI b)) wt_125 wt_1 wn_450 wt_124 (by decide +kernel) ⟨Nat.le_of_ble_eq_true rfl, Nat.le_of_ble_eq_true rfl⟩ rfl hl.1 rfl (Nat.le_of_ble_eq_true rfl) d_Ty_isGoodAtEnd_9 ⟨Nat.le_of_ble_eq_true rfl, Nat.le_of_ble_eq_true rfl⟩) (fun r_9 _u9 H locs hw_9 hP hD hS => ?_)
  have hP : va_P D cls [(h, .inr (8, [.int (nI kd), .int (nI mn), .int (nI w), .int (nI ns), .int (nI hn), .int (nI hq), .int (nI z), .int (nI a), .int (nI b)]))] H := hP
  have hD : va_D A [(h, .inr (8, [.int (nI kd), .int (nI mn), .int (nI w), .int (nI ns), .int (nI hn), .int (nI hq), .int (nI z), .int (nI a), .int (nI b)]))] := hD
  subst hw_9
  refine t_eq (y := (bI (decide (a ≤ x) && decide (x ≤ b)))) (by rw [decide_eq_decide.mpr (nI_leI (by omega) (by omega)), decide_eq_decide.mpr (nI_leI (by omega) (by omega))]) ?_
  exact ret_i C0 hr hlk hAe hS () rfl hP hD (bI_n _) (Nat.le_of_ble_eq_true rfl) (Nat.le_of_ble_eq_true rfl) d_Ty_isGoodAtEnd_12
set_option maxHeartbeats 4000000 in
set_option maxRecDepth 100000 in
theorem c_Fi_isGoodAtEnd (l : Launch) (D : va_G) (cI : ClassId) (sz : Nat) (h : Nat) (kd : Nat) (mn : Nat) (w : Nat) (ns : Nat) (hn : Nat) (hq : Nat) (a : Nat) (b : Nat) (x : Nat) (hx0 : x < 1048576) : MetI l y_Fi_isGoodAtEnd b_Fi_isGoodAtEnd 2 (some .boolean) { frames := 0, cells := 0, slots := 0, locals := 0 } D cI [] sz [(h, .inr (9, [.int (nI kd), .int (nI mn), .int (nI w), .int (nI ns), .int (nI hn), .int (nI hq), .int (nI a), .int (nI b)]))] [.ref h, .int (nI x)] (fun (r : Int32) (u : Unit) => r = (bI true)) (fun u : Unit => [(h, .inr (9, [.int (nI kd), .int (nI mn), .int (nI w), .int (nI ns), .int (nI hn), .int (nI hq), .int (nI a), .int (nI b)]))]) := by
  refine enter (by decide) (Nat.le_of_ble_eq_true rfl) ?_
  intro p e s m below meth c A ls C0 hr hlk hnm hK hsz hA hAe hP hD hS hl
  have hx := C0.1
  have hb := C0.2.1
  have hl : lv_has ls 2 [(0, .ref h), (1, .int (nI x))] := hl
  refine lv_iconst (v := (nI 1)) hx hb d_Fi_isGoodAtEnd_0 (by decide) ?_
  exact ret_i C0 hr hlk hAe hS () rfl hP hD rfl (Nat.le_of_ble_eq_true rfl) (Nat.le_of_ble_eq_true rfl) d_Fi_isGoodAtEnd_1
