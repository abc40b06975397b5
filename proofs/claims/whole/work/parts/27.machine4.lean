def shF (sp : Nat → Nat) (i b : Nat) : Nat → Nat := fun j => if i < j ∧ j ≤ b then sp (j - 1) else sp j
theorem shF_0 {sp : Nat → Nat} {b : Nat} : shF sp b b = sp := by
  funext j
  unfold shF
  rw [if_neg (by omega)]
theorem shF_s {sp : Nat → Nat} {i b : Nat} (h0 : 0 < i) (hi : i ≤ b) : va_up (shF sp i b) i (shF sp i b (i - 1)) = shF sp (i - 1) b := by
  funext j
  unfold va_up shF
  by_cases h : j = i
  · subst h
    rw [if_pos rfl, if_neg (by omega), if_pos (by omega)]
  · rw [if_neg h]
    by_cases g : i < j ∧ j ≤ b
    · rw [if_pos g, if_pos (by omega)]
    · rw [if_neg g, if_neg (by omega)]
/-- a number more at place k, those behind it one further -/
def insF (sp : Nat → Nat) (k b x : Nat) : Nat → Nat := va_up (shF sp k b) k x
def saI (sa : Nat → Nat) (v i : Nat) : Nat → Nat := fun j => if v < j ∧ j < i then sa j + 1 else sa j
theorem saI_0 {sa : Nat → Nat} {v : Nat} : saI sa v (v + 1) = sa := by
  funext j
  unfold saI
  rw [if_neg (by omega)]
theorem saI_s {sa : Nat → Nat} {v i : Nat} (h : v < i) : va_up (saI sa v i) i (saI sa v i i + 1) = saI sa v (i + 1) := by
  funext j
  unfold va_up saI
  by_cases g : j = i
  · subst g
    rw [if_pos rfl, if_neg (by omega), if_pos (by omega)]
  · rw [if_neg g]
    by_cases q : v < j ∧ j < i
    · rw [if_pos q, if_pos (by omega)]
    · rw [if_neg q, if_neg (by omega)]
theorem saI_6 {sa : Nat → Nat} {v : Nat} (h : v < 6) : saI sa v 7 6 = sa 6 + 1 := by
  unfold saI
  rw [if_pos (by omega)]
set_option maxHeartbeats 4000000 in
set_option maxRecDepth 100000 in
theorem c_Ma_parts (l : Launch) (D : va_G) (cI : ClassId) (sz : Nat) (h : Nat) (kd : Nat) (n : Nat) (w : Nat) (ns : Nat) (hn : Nat) (hq : Nat) (en : Nat) (mo : Nat) (st : Nat) (sr : Nat) (sa : Nat → Nat)  : MetI l y_Ma_parts b_Ma_parts 1 (some .int) { frames := 0, cells := 0, slots := 0, locals := 0 } D cI [] sz [(h, .inr (4, [.int (nI kd), .int (nI n), .int (nI w), .int (nI ns), .int (nI hn), .int (nI hq), .int (nI en), .int (nI mo), .ref st, .ref sr])), (sr, .inl (cI, 7, .inl (nA sa)))] [.ref h] (fun (r : Int32) (u : Unit) => r = (nI (sa 6))) (fun u : Unit => [(h, .inr (4, [.int (nI kd), .int (nI n), .int (nI w), .int (nI ns), .int (nI hn), .int (nI hq), .int (nI en), .int (nI mo), .ref st, .ref sr])), (sr, .inl (cI, 7, .inl (nA sa)))]) := by
  refine enter (by decide) (Nat.le_of_ble_eq_true rfl) ?_
  intro p e s m below meth c A ls C0 hr hlk hnm hK hsz hA hAe hP hD hS hl
  have hx := C0.1
  have hb := C0.2.1
  have hl : lv_has ls 1 [(0, .ref h)] := hl
  refine lv_aload_n hx hb d_Ma_parts_0 rfl (lv_at hl 0 rfl) ?_
  refine r_get C0 hK hP 0 rfl rfl i_Ma 9 (by decide) wt_240 (fun _ h => h) rfl d_Ma_parts_1 ?_
  refine lv_bipush (v := (nI 6)) hx hb d_Ma_parts_4 (by decide) ?_
  refine r_ald C0 hK hP 1 rfl (by omega) (by decide) d_Ma_parts_6 ?_
  refine t_eq (y := (nI (sa 6))) rfl ?_
  exact ret_i C0 hr hlk hAe hS () rfl hP hD rfl (Nat.le_of_ble_eq_true rfl) (Nat.le_of_ble_eq_true rfl) d_Ma_parts_7
set_option maxHeartbeats 4000000 in
set_option maxRecDepth 100000 in
theorem mw_0 (l : Launch) (D : va_G) (cI : ClassId) (sz : Nat) (h : Nat) (kd : Nat) (n : Nat) (w : Nat) (ns : Nat) (hn : Nat) (hq : Nat) (en : Nat) (mo : Nat) (st : Nat) (sr : Nat) (hp : Nat) (po : Nat) (pk : Nat) (pa : Nat) (pb : Nat) (pw : Nat) (ps : Nat) (tm : Nat) (sp : Nat → Nat) (sa : Nat → Nat) (op : Nat → Nat) (bh : Nat → Nat) (ah : Nat → Nat) (k : Nat) (hsp : ∀ j, sp j < 8192) (hsa : ∀ j, j < 6 → sa j ≤ sa (j + 1)) (hs6 : ∀ j, j ≤ 6 → sa j ≤ 30) (hop : ∀ j, op j < 64) (hbh : ∀ j, bh j ≤ 1000000) (hah : ∀ j, ah j ≤ 1000000) (hmo : mo ≤ 1000) (hn6 : n ≤ 6) (hkd : k + 0 = n) : MetI l y_Ma_wordsFrom b_Ma_wordsFrom 5 (some .int) { frames := 4 + 0, cells := 0, slots := 0, locals := 160 + 60 * 0 } D cI [] sz [(h, .inr (4, [.int (nI kd), .int (nI n), .int (nI w), .int (nI ns), .int (nI hn), .int (nI hq), .int (nI en), .int (nI mo), .ref st, .ref sr])), (st, .inl (cI, 30, .inl (nA sp))), (sr, .inl (cI, 7, .inl (nA sa))), (hp, .inr (2, [.ref po, .ref pk, .ref pa, .ref pb, .ref pw, .ref ps, .int (nI tm)])), (po, .inl (cI, 6, .inl (nA op))), (pa, .inl (cI, 56, .inl (nA ah))), (pb, .inl (cI, 56, .inl (nA bh)))] [.ref h, .int (nI k), .ref hp] (fun (r : Int32) (u : Unit) => r = nI (mwF sp sa op bh mo 0 k ah).1) (fun u : Unit => [(h, .inr (4, [.int (nI kd), .int (nI n), .int (nI w), .int (nI ns), .int (nI hn), .int (nI hq), .int (nI en), .int (nI mo), .ref st, .ref sr])), (st, .inl (cI, 30, .inl (nA sp))), (sr, .inl (cI, 7, .inl (nA sa))), (hp, .inr (2, [.ref po, .ref pk, .ref pa, .ref pb, .ref pw, .ref ps, .int (nI tm)])), (po, .inl (cI, 6, .inl (nA op))), (pa, .inl (cI, 56, .inl (nA ((mwF sp sa op bh mo 0 k ah).2)))), (pb, .inl (cI, 56, .inl (nA bh)))]) := by
  refine enter (by decide) (Nat.le_of_ble_eq_true rfl) ?_
  intro p e s m below meth c A ls C0 hr hlk hnm hK hsz hA hAe hP hD hS hl
  have hx := C0.1
  have hb := C0.2.1
  have hl : lv_has ls 5 [(0, .ref h), (1, .int (nI k)), (2, .ref hp)] := hl
  refine lv_iload_n hx hb d_Ma_wordsFrom_0 rfl (lv_at hl 1 rfl) ?_
  refine z_lt (tgt := 18) hx hb (by omega) d_Ma_wordsFrom_1 (by decide) ?_
  refine lv_iload_n hx hb d_Ma_wordsFrom_4 rfl (lv_at hl 1 rfl) ?_
  refine lv_aload_n hx hb d_Ma_wordsFrom_5 rfl (lv_at hl 0 rfl) ?_
  refine r_get C0 hK hP 0 rfl rfl i_Ma 1 (by decide) wt_173 (fun x h => u_same (C0.2.2.2.2 _ wt_174) x h) rfl d_Ma_wordsFrom_6 ?_
  refine b_ge (tgt := 18) hx hb (by omega) (by omega) d_Ma_wordsFrom_9 (by decide) (fun c_9 => ?_) (fun c_9 => ?_)
  · refine lv_iconst (v := (nI 1)) hx hb d_Ma_wordsFrom_18 (by decide) ?_
    exact ret_i C0 hr hlk hAe hS () rfl hP hD rfl (Nat.le_of_ble_eq_true rfl) (Nat.le_of_ble_eq_true rfl) d_Ma_wordsFrom_19
  · exact absurd c_9 (by omega)
set_option maxHeartbeats 4000000 in
set_option maxRecDepth 100000 in
theorem mw_s (l : Launch) (D : va_G) (cI : ClassId) (sz : Nat) (d : Nat) (h : Nat) (kd : Nat) (n : Nat) (w : Nat) (ns : Nat) (hn : Nat) (hq : Nat) (en : Nat) (mo : Nat) (st : Nat) (sr : Nat) (hp : Nat) (po : Nat) (pk : Nat) (pa : Nat) (pb : Nat) (pw : Nat) (ps : Nat) (tm : Nat) (sp : Nat → Nat) (sa : Nat → Nat) (op : Nat → Nat) (bh : Nat → Nat) (ah : Nat → Nat) (k : Nat) (ihr : ∀ (sz : Nat) (h : Nat) (kd : Nat) (n : Nat) (w : Nat) (ns : Nat) (hn : Nat) (hq : Nat) (en : Nat) (mo : Nat) (st : Nat) (sr : Nat) (hp : Nat) (po : Nat) (pk : Nat) (pa : Nat) (pb : Nat) (pw : Nat) (ps : Nat) (tm : Nat) (sp : Nat → Nat) (sa : Nat → Nat) (op : Nat → Nat) (bh : Nat → Nat) (ah : Nat → Nat) (k : Nat) (hsp : ∀ j, sp j < 8192) (hsa : ∀ j, j < 6 → sa j ≤ sa (j + 1)) (hs6 : ∀ j, j ≤ 6 → sa j ≤ 30) (hop : ∀ j, op j < 64) (hbh : ∀ j, bh j ≤ 1000000) (hah : ∀ j, ah j ≤ 1000000) (hmo : mo ≤ 1000) (hn6 : n ≤ 6) (hkd : k + d = n), MetI l y_Ma_wordsFrom b_Ma_wordsFrom 5 (some .int) { frames := 4 + d, cells := 0, slots := 0, locals := 160 + 60 * d } D cI [] sz [(h, .inr (4, [.int (nI kd), .int (nI n), .int (nI w), .int (nI ns), .int (nI hn), .int (nI hq), .int (nI en), .int (nI mo), .ref st, .ref sr])), (st, .inl (cI, 30, .inl (nA sp))), (sr, .inl (cI, 7, .inl (nA sa))), (hp, .inr (2, [.ref po, .ref pk, .ref pa, .ref pb, .ref pw, .ref ps, .int (nI tm)])), (po, .inl (cI, 6, .inl (nA op))), (pa, .inl (cI, 56, .inl (nA ah))), (pb, .inl (cI, 56, .inl (nA bh)))] [.ref h, .int (nI k), .ref hp] (fun (r : Int32) (u : Unit) => r = nI (mwF sp sa op bh mo d k ah).1) (fun u : Unit => [(h, .inr (4, [.int (nI kd), .int (nI n), .int (nI w), .int (nI ns), .int (nI hn), .int (nI hq), .int (nI en), .int (nI mo), .ref st, .ref sr])), (st, .inl (cI, 30, .inl (nA sp))), (sr, .inl (cI, 7, .inl (nA sa))), (hp, .inr (2, [.ref po, .ref pk, .ref pa, .ref pb, .ref pw, .ref ps, .int (nI tm)])), (po, .inl (cI, 6, .inl (nA op))), (pa, .inl (cI, 56, .inl (nA ((mwF sp sa op bh mo d k ah).2)))), (pb, .inl (cI, 56, .inl (nA bh)))])) (hsp : ∀ j, sp j < 8192) (hsa : ∀ j, j < 6 → sa j ≤ sa (j + 1)) (hs6 : ∀ j, j ≤ 6 → sa j ≤ 30) (hop : ∀ j, op j < 64) (hbh : ∀ j, bh j ≤ 1000000) (hah : ∀ j, ah j ≤ 1000000) (hmo : mo ≤ 1000) (hn6 : n ≤ 6) (hkd : k + (d + 1) = n) : MetI l y_Ma_wordsFrom b_Ma_wordsFrom 5 (some .int) { frames := 4 + (d + 1), cells := 0, slots := 0, locals := 160 + 60 * (d + 1) } D cI [] sz [(h, .inr (4, [.int (nI kd), .int (nI n), .int (nI w), .int (nI ns), .int (nI hn), .int (nI hq), .int (nI en), .int (nI mo), .ref st, .ref sr])), (st, .inl (cI, 30, .inl (nA sp))), (sr, .inl (cI, 7, .inl (nA sa))), (hp, .inr (2, [.ref po, .ref pk, .ref pa, .ref pb, .ref pw, .ref ps, .int (nI tm)])), (po, .inl (cI, 6, .inl (nA op))), (pa, .inl (cI, 56, .inl (nA ah))), (pb, .inl (cI, 56, .inl (nA bh)))] [.ref h, .int (nI k), .ref hp] (fun (r : Int32) (u : Unit) => r = nI (mwF sp sa op bh mo (d + 1) k ah).1) (fun u : Unit => [(h, .inr (4, [.int (nI kd), .int (nI n), .int (nI w), .int (nI ns), .int (nI hn), .int (nI hq), .int (nI en), .int (nI mo), .ref st, .ref sr])), (st, .inl (cI, 30, .inl (nA sp))), (sr, .inl (cI, 7, .inl (nA sa))), (hp, .inr (2, [.ref po, .ref pk, .ref pa, .ref pb, .ref pw, .ref ps, .int (nI tm)])), (po, .inl (cI, 6, .inl (nA op))), (pa, .inl (cI, 56, .inl (nA ((mwF sp sa op bh mo (d + 1) k ah).2)))), (pb, .inl (cI, 56, .inl (nA bh)))]) := by
  refine enter (by decide) (Nat.le_of_ble_eq_true rfl) ?_
  intro p e s m below meth c A ls C0 hr hlk hnm hK hsz hA hAe hP hD hS hl
  have hx := C0.1
  have hb := C0.2.1
  have hl : lv_has ls 5 [(0, .ref h), (1, .int (nI k)), (2, .ref hp)] := hl
  refine lv_iload_n hx hb d_Ma_wordsFrom_0 rfl (lv_at hl 1 rfl) ?_
  refine z_lt (tgt := 18) hx hb (by omega) d_Ma_wordsFrom_1 (by decide) ?_
  refine lv_iload_n hx hb d_Ma_wordsFrom_4 rfl (lv_at hl 1 rfl) ?_
  refine lv_aload_n hx hb d_Ma_wordsFrom_5 rfl (lv_at hl 0 rfl) ?_
  refine r_get C0 hK hP 0 rfl rfl i_Ma 1 (by decide) wt_173 (fun x h => u_same (C0.2.2.2.2 _ wt_174) x h) rfl d_Ma_wordsFrom_6 ?_
  refine b_ge (tgt := 18) hx hb (by omega) (by omega) d_Ma_wordsFrom_9 (by decide) (fun c_9 => ?_) (fun c_9 => ?_)
  · exact absurd c_9 (by omega)
  · refine lv_iload_n hx hb d_Ma_wordsFrom_12 rfl (lv_at hl 1 rfl) ?_
    refine lv_bipush (v := (nI 6)) hx hb d_Ma_wordsFrom_13 (by decide) ?_
    refine b_lt (tgt := 20) hx hb (by omega) (by decide) d_Ma_wordsFrom_15 (by decide) (fun c_15 => ?_) (fun c_15 => ?_)
    · refine lv_iconst (v := (nI 0)) hx hb d_Ma_wordsFrom_20 (by decide) ?_
      refine lv_istore_n (lv' := [(3, .int (nI 0)), (0, .ref h), (1, .int (nI k)), (2, .ref hp)]) hx hb d_Ma_wordsFrom_21 rfl hl (by decide) rfl (fun ls hl => ?_)
      refine lv_iconst (v := (nI 0)) hx hb d_Ma_wordsFrom_22 (by decide) ?_
      refine lv_istore (lv' := [(4, .int (nI 0)), (3, .int (nI 0)), (0, .ref h), (1, .int (nI k)), (2, .ref hp)]) hx hb d_Ma_wordsFrom_23 hl (by decide) rfl (fun ls hl => ?_)
      have hl : lv_has ls 5 [(4, .int (nI 0)), (3, .int (nI ((mwV sp sa op bh mo d k ah 0).1))), (0, .ref h), (1, .int (nI k)), (2, .ref hp)] := by rw [show (mwV sp sa op bh mo d k ah 0).1 = 0 from rfl]; exact hl
      rw [show ah = (mwV sp sa op bh mo d k ah 0).2 from rfl] at hP hD
      have L25 : ∀ (fuel25 : Nat) (i : Nat), (i ≤ 6) → (6 < i + fuel25) → ∀ (H : Heap) (locs : List Loc) (ls : Array Slot), va_P D cls [(h, .inr (4, [.int (nI kd), .int (nI n), .int (nI w), .int (nI ns), .int (nI hn), .int (nI hq), .int (nI en), .int (nI mo), .ref st, .ref sr])), (st, .inl (cI, 30, .inl (nA sp))), (sr, .inl (cI, 7, .inl (nA sa))), (hp, .inr (2, [.ref po, .ref pk, .ref pa, .ref pb, .ref pw, .ref ps, .int (nI tm)])), (po, .inl (cI, 6, .inl (nA op))), (pa, .inl (cI, 56, .inl (nA ((mwV sp sa op bh mo d k ah i).2)))), (pb, .inl (cI, 56, .inl (nA bh)))] H → va_D A [(h, .inr (4, [.int (nI kd), .int (nI n), .int (nI w), .int (nI ns), .int (nI hn), .int (nI hq), .int (nI en), .int (nI mo), .ref st, .ref sr])), (st, .inl (cI, 30, .inl (nA sp))), (sr, .inl (cI, 7, .inl (nA sa))), (hp, .inr (2, [.ref po, .ref pk, .ref pa, .ref pb, .ref pw, .ref ps, .int (nI tm)])), (po, .inl (cI, 6, .inl (nA op))), (pa, .inl (cI, 56, .inl (nA ((mwV sp sa op bh mo d k ah i).2)))), (pb, .inl (cI, 56, .inl (nA bh)))] → va_S A s.heap H locs → lv_has ls 5 [(4, .int (nI i)), (3, .int (nI ((mwV sp sa op bh mo d k ah i).1))), (0, .ref h), (1, .int (nI k)), (2, .ref hp)] → W p l e { frames := 4 + (d + 1), cells := 0, slots := 0, locals := 160 + 60 * (d + 1) } s m ([.ref h, .int (nI k), .ref hp] : List Value).toArray below meth c H locs 0 0 (MQ below (pstI D [(h, .inr (4, [.int (nI kd), .int (nI n), .int (nI w), .int (nI ns), .int (nI hn), .int (nI hq), .int (nI en), .int (nI mo), .ref st, .ref sr])), (st, .inl (cI, 30, .inl (nA sp))), (sr, .inl (cI, 7, .inl (nA sa))), (hp, .inr (2, [.ref po, .ref pk, .ref pa, .ref pb, .ref pw, .ref ps, .int (nI tm)])), (po, .inl (cI, 6, .inl (nA op))), (pa, .inl (cI, 56, .inl (nA ah))), (pb, .inl (cI, 56, .inl (nA bh)))] sz (fun (r : Int32) (u : Unit) => r = nI (mwF sp sa op bh mo (d + 1) k ah).1) (fun u : Unit => [(h, .inr (4, [.int (nI kd), .int (nI n), .int (nI w), .int (nI ns), .int (nI hn), .int (nI hq), .int (nI en), .int (nI mo), .ref st, .ref sr])), (st, .inl (cI, 30, .inl (nA sp))), (sr, .inl (cI, 7, .inl (nA sa))), (hp, .inr (2, [.ref po, .ref pk, .ref pa, .ref pb, .ref pw, .ref ps, .int (nI tm)])), (po, .inl (cI, 6, .inl (nA op))), (pa, .inl (cI, 56, .inl (nA ((mwF sp sa op bh mo (d + 1) k ah).2)))), (pb, .inl (cI, 56, .inl (nA bh)))])) ([.ref h, .int (nI k), .ref hp] : List Value).toArray s 0 0 A) (F0 m 25 ls []) := by
        intro fuel25
        induction fuel25 with
        | zero => intros; omega
        | succ fuel25 ih25 =>
          intro i hi hfu H locs ls hP hD hS hl
          refine lv_iload hx hb d_Ma_wordsFrom_25 (lv_at hl 0 rfl) ?_
          refine lv_bipush (v := (nI 6)) hx hb d_Ma_wordsFrom_27 (by decide) ?_
          refine b_ge (tgt := 88) hx hb (by omega) (by decide) d_Ma_wordsFrom_29 (by decide) (fun c_29 => ?_) (fun c_29 => ?_)
          · obtain rfl : i = 6 := (by omega)
            refine lv_iload_n hx hb d_Ma_wordsFrom_88 rfl (lv_at hl 1 rfl) ?_
            exact ret_i C0 hr hlk hAe hS () rfl hP hD rfl (Nat.le_of_ble_eq_true rfl) (Nat.le_of_ble_eq_true rfl) d_Ma_wordsFrom_89
          · refine lv_aload_n hx hb d_Ma_wordsFrom_32 rfl (lv_at hl 4 rfl) ?_
            refine r_get C0 hK hP 3 rfl rfl i_Pl 0 (by decide) wt_57 (fun _ h => h) rfl d_Ma_wordsFrom_33 ?_
            refine lv_iload_n hx hb d_Ma_wordsFrom_36 rfl (lv_at hl 3 rfl) ?_
            refine r_ald C0 hK hP 4 rfl (by omega) (by decide) d_Ma_wordsFrom_37 ?_
            refine t_eq (y := (nI (op k))) rfl ?_
            refine lv_iload hx hb d_Ma_wordsFrom_38 (lv_at hl 0 rfl) ?_
            refine call_i (rm := { frames := 0, cells := 0, slots := 0, locals := 0 }) hS hP hD hA (spl_mk (wc := []) (wr := [(h, .inr (4, [.int (nI kd), .int (nI n), .int (nI w), .int (nI ns), .int (nI hn), .int (nI hq), .int (nI en), .int (nI mo), .ref st, .ref sr])), (st, .inl (cI, 30, .inl (nA sp))), (sr, .inl (cI, 7, .inl (nA sa))), (hp, .inr (2, [.ref po, .ref pk, .ref pa, .ref pb, .ref pw, .ref ps, .int (nI tm)])), (po, .inl (cI, 6, .inl (nA op))), (pa, .inl (cI, 56, .inl (nA ((mwV sp sa op bh mo d k ah i).2)))), (pb, .inl (cI, 56, .inl (nA bh)))]) [] [0, 1, 2, 3, 4, 5, 6] rfl rfl (by decide)) (run_sN (n := 2) (As := [.int (nI (op k)), .int (nI i)]) (rest := []) C0 (hK.sub [] rfl) (c_TC_has l D cI H.size (op k) i (Nat.lt_trans (hop _) (by decide)) (by omega)) wt_147 wt_1 wn_498 wt_146 (by decide +kernel) ⟨by simp only []; omega, by simp only []; omega⟩ rfl hl.1 rfl (Nat.le_of_ble_eq_true rfl) d_Ma_wordsFrom_40 ⟨Nat.le_refl _, Nat.le_refl _⟩) (fun r_40 _u40 H locs hw_40 hP hD hS => ?_)
            have hP : va_P D cls [(h, .inr (4, [.int (nI kd), .int (nI n), .int (nI w), .int (nI ns), .int (nI hn), .int (nI hq), .int (nI en), .int (nI mo), .ref st, .ref sr])), (st, .inl (cI, 30, .inl (nA sp))), (sr, .inl (cI, 7, .inl (nA sa))), (hp, .inr (2, [.ref po, .ref pk, .ref pa, .ref pb, .ref pw, .ref ps, .int (nI tm)])), (po, .inl (cI, 6, .inl (nA op))), (pa, .inl (cI, 56, .inl (nA ((mwV sp sa op bh mo d k ah i).2)))), (pb, .inl (cI, 56, .inl (nA bh)))] H := hP
            have hD : va_D A [(h, .inr (4, [.int (nI kd), .int (nI n), .int (nI w), .int (nI ns), .int (nI hn), .int (nI hq), .int (nI en), .int (nI mo), .ref st, .ref sr])), (st, .inl (cI, 30, .inl (nA sp))), (sr, .inl (cI, 7, .inl (nA sa))), (hp, .inr (2, [.ref po, .ref pk, .ref pa, .ref pb, .ref pw, .ref ps, .int (nI tm)])), (po, .inl (cI, 6, .inl (nA op))), (pa, .inl (cI, 56, .inl (nA ((mwV sp sa op bh mo d k ah i).2)))), (pb, .inl (cI, 56, .inl (nA bh)))] := hD
            subst hw_40
            refine y_eq (tgt := 82) hx hb d_Ma_wordsFrom_43 (by decide) (fun c_43 => ?_) (fun c_43 => ?_)
            · have hl : lv_has ls 5 [(4, .int (nI i)), (3, .int (nI ((mwV sp sa op bh mo d k ah (i + 1)).1))), (0, .ref h), (1, .int (nI k)), (2, .ref hp)] := by rw [show (mwV sp sa op bh mo d k ah (i + 1)).1 = (mwV sp sa op bh mo d k ah i).1 from (by rw [mwV_f c_43])]; exact hl
              rw [show ((mwV sp sa op bh mo d k ah i).2) = (mwV sp sa op bh mo d k ah (i + 1)).2 from (by rw [mwV_f c_43])] at hP hD
              refine lv_iinc (v := (nI (i + 1))) (lv' := [(4, .int (nI (i + 1))), (3, .int (nI ((mwV sp sa op bh mo d k ah (i + 1)).1))), (0, .ref h), (1, .int (nI k)), (2, .ref hp)]) hx hb d_Ma_wordsFrom_82 hl (k := 0) rfl (by exact nI_1 _) (by decide) rfl (fun ls hl => ?_)
              refine lv_goto (tgt := 25) hx hb d_Ma_wordsFrom_85 (by decide) ?_
              exact ih25 (i + 1) (by omega) (by omega) _ _ _ hP hD hS (lv_sub hl [0, 1, 2, 3, 4] rfl)
            · refine lv_aload_n hx hb d_Ma_wordsFrom_46 rfl (lv_at hl 4 rfl) ?_
              refine r_get C0 hK hP 3 rfl rfl i_Pl 2 (by decide) wt_66 (fun _ h => h) rfl d_Ma_wordsFrom_47 ?_
              refine lv_iload_n hx hb d_Ma_wordsFrom_50 rfl (lv_at hl 3 rfl) ?_
              refine lv_iconst (v := (nI 1)) hx hb d_Ma_wordsFrom_51 (by decide) ?_
              refine lv_iadd hx hb d_Ma_wordsFrom_52 ?_
              refine t_eq (y := (nI (k + 1))) (nI_add _ _) ?_
              refine call_v (rm := { frames := 1, cells := 0, slots := 0, locals := 22 }) hS hP hD hA (spl_mk (wc := [(pa, .inl (cI, 56, .inl (nA ((mwV sp sa op bh mo d k ah i).2))))]) (wr := [(h, .inr (4, [.int (nI kd), .int (nI n), .int (nI w), .int (nI ns), .int (nI hn), .int (nI hq), .int (nI en), .int (nI mo), .ref st, .ref sr])), (st, .inl (cI, 30, .inl (nA sp))), (sr, .inl (cI, 7, .inl (nA sa))), (hp, .inr (2, [.ref po, .ref pk, .ref pa, .ref pb, .ref pw, .ref ps, .int (nI tm)])), (po, .inl (cI, 6, .inl (nA op))), (pb, .inl (cI, 56, .inl (nA bh)))]) [5] [0, 1, 2, 3, 4, 6] rfl rfl (by decide)) (run_s (n := 2) (As := [.ref pa, .int (nI (k + 1))]) (rest := []) C0 (hK.sub [] rfl) (c_Ma_makeFar l D cI H.size pa ((mwV sp sa op bh mo d k ah i).2) (k + 1) (by omega)) wt_502 wt_7 wt_500 wt_501 (by decide +kernel) ⟨by simp only []; omega, by simp only []; omega⟩ rfl hl.1 rfl (Nat.le_of_ble_eq_true rfl) d_Ma_wordsFrom_53 ⟨Nat.le_refl _, Nat.le_refl _⟩) (fun _u53 H locs hw_53 hP hD hS => ?_)
              have hP : va_P D cls [(h, .inr (4, [.int (nI kd), .int (nI n), .int (nI w), .int (nI ns), .int (nI hn), .int (nI hq), .int (nI en), .int (nI mo), .ref st, .ref sr])), (st, .inl (cI, 30, .inl (nA sp))), (sr, .inl (cI, 7, .inl (nA sa))), (hp, .inr (2, [.ref po, .ref pk, .ref pa, .ref pb, .ref pw, .ref ps, .int (nI tm)])), (po, .inl (cI, 6, .inl (nA op))), (pb, .inl (cI, 56, .inl (nA bh))), (pa, .inl (cI, 56, .inl (nA (mf ((mwV sp sa op bh mo d k ah i).2) (k + 1) 6))))] H := hP
              have hD : va_D A [(h, .inr (4, [.int (nI kd), .int (nI n), .int (nI w), .int (nI ns), .int (nI hn), .int (nI hq), .int (nI en), .int (nI mo), .ref st, .ref sr])), (st, .inl (cI, 30, .inl (nA sp))), (sr, .inl (cI, 7, .inl (nA sa))), (hp, .inr (2, [.ref po, .ref pk, .ref pa, .ref pb, .ref pw, .ref ps, .int (nI tm)])), (po, .inl (cI, 6, .inl (nA op))), (pb, .inl (cI, 56, .inl (nA bh))), (pa, .inl (cI, 56, .inl (nA (mf ((mwV sp sa op bh mo d k ah i).2) (k + 1) 6))))] := hD
              refine lv_aload_n hx hb d_Ma_wordsFrom_56 rfl (lv_at hl 2 rfl) ?_
              refine lv_iload_n hx hb d_Ma_wordsFrom_57 rfl (lv_at hl 3 rfl) ?_
              refine lv_iload hx hb d_Ma_wordsFrom_58 (lv_at hl 0 rfl) ?_
              refine lv_aload_n hx hb d_Ma_wordsFrom_60 rfl (lv_at hl 4 rfl) ?_
              refine call_i (rm := { frames := 2, cells := 0, slots := 0, locals := 42 }) hS hP hD hA (spl_mk (wc := [(h, .inr (4, [.int (nI kd), .int (nI n), .int (nI w), .int (nI ns), .int (nI hn), .int (nI hq), .int (nI en), .int (nI mo), .ref st, .ref sr])), (st, .inl (cI, 30, .inl (nA sp))), (sr, .inl (cI, 7, .inl (nA sa))), (hp, .inr (2, [.ref po, .ref pk, .ref pa, .ref pb, .ref pw, .ref ps, .int (nI tm)])), (pa, .inl (cI, 56, .inl (nA (mf ((mwV sp sa op bh mo d k ah i).2) (k + 1) 6)))), (pb, .inl (cI, 56, .inl (nA bh)))]) (wr := [(po, .inl (cI, 6, .inl (nA op)))]) [0, 1, 2, 3, 6, 5] [4] rfl rfl (by decide)) (run_v (n := 3) (As := [.int (nI k), .int (nI i), .ref hp]) (rest := []) (q0 := 0) (ci := 4) C0 (hK.sub [] rfl) (c_Ma_goAhead l D cI H.size h kd n w ns hn hq en mo st sr hp po pk pa pb pw ps tm sp sa (mf ((mwV sp sa op bh mo d k ah i).2) (k + 1) 6) bh k i hsp hsa hs6 (by omega) (by omega) hbh (mf_le (mwV_le hah i))) rfl rfl wt_516 wt_7 wt_513 wt_515 wp_7 (by decide +kernel) ⟨by simp only []; omega, by simp only []; omega⟩ rfl hl.1 rfl (Nat.le_of_ble_eq_true rfl) d_Ma_wordsFrom_61 ⟨Nat.le_refl _, Nat.le_refl _⟩) (fun r_61 _u61 H locs hw_61 hP hD hS => ?_)
              have hP : va_P D cls [(po, .inl (cI, 6, .inl (nA op))), (h, .inr (4, [.int (nI kd), .int (nI n), .int (nI w), .int (nI ns), .int (nI hn), .int (nI hq), .int (nI en), .int (nI mo), .ref st, .ref sr])), (st, .inl (cI, 30, .inl (nA sp))), (sr, .inl (cI, 7, .inl (nA sa))), (hp, .inr (2, [.ref po, .ref pk, .ref pa, .ref pb, .ref pw, .ref ps, .int (nI tm)])), (pa, .inl (cI, 56, .inl (nA ((gaF sp bh k (mf ((mwV sp sa op bh mo d k ah i).2) (k + 1) 6) (sa i) (sa (i + 1) - sa i)).1)))), (pb, .inl (cI, 56, .inl (nA bh)))] H := hP
              have hD : va_D A [(po, .inl (cI, 6, .inl (nA op))), (h, .inr (4, [.int (nI kd), .int (nI n), .int (nI w), .int (nI ns), .int (nI hn), .int (nI hq), .int (nI en), .int (nI mo), .ref st, .ref sr])), (st, .inl (cI, 30, .inl (nA sp))), (sr, .inl (cI, 7, .inl (nA sa))), (hp, .inr (2, [.ref po, .ref pk, .ref pa, .ref pb, .ref pw, .ref ps, .int (nI tm)])), (pa, .inl (cI, 56, .inl (nA ((gaF sp bh k (mf ((mwV sp sa op bh mo d k ah i).2) (k + 1) 6) (sa i) (sa (i + 1) - sa i)).1)))), (pb, .inl (cI, 56, .inl (nA bh)))] := hD
              subst hw_61
              have hwl : (gaF sp bh k (mf (mwV sp sa op bh mo d k ah i).2 (k + 1) 6) (sa i) (sa (i + 1) - sa i)).2 ≤ 1000000 := (gaF_le (mf_le (mwV_le hah i)) _).2
              refine lv_aload_n hx hb d_Ma_wordsFrom_64 rfl (lv_at hl 2 rfl) ?_
              refine r_get C0 hK hP 1 rfl rfl i_Ma 7 (by decide) wt_238 (fun _ h => h) rfl d_Ma_wordsFrom_65 ?_
              refine b_gt (tgt := 82) hx hb (by omega) (by omega) d_Ma_wordsFrom_68 (by decide) (fun c_68 => ?_) (fun c_68 => ?_)
              · have hl : lv_has ls 5 [(4, .int (nI i)), (3, .int (nI ((mwV sp sa op bh mo d k ah (i + 1)).1))), (0, .ref h), (1, .int (nI k)), (2, .ref hp)] := by rw [show (mwV sp sa op bh mo d k ah (i + 1)).1 = (mwV sp sa op bh mo d k ah i).1 from (by rw [mwV_a c_43 c_68])]; exact hl
                rw [show ((gaF sp bh k (mf ((mwV sp sa op bh mo d k ah i).2) (k + 1) 6) (sa i) (sa (i + 1) - sa i)).1) = (mwV sp sa op bh mo d k ah (i + 1)).2 from (by rw [mwV_a c_43 c_68])] at hP hD
                have hP : va_P D cls [(h, .inr (4, [.int (nI kd), .int (nI n), .int (nI w), .int (nI ns), .int (nI hn), .int (nI hq), .int (nI en), .int (nI mo), .ref st, .ref sr])), (st, .inl (cI, 30, .inl (nA sp))), (sr, .inl (cI, 7, .inl (nA sa))), (hp, .inr (2, [.ref po, .ref pk, .ref pa, .ref pb, .ref pw, .ref ps, .int (nI tm)])), (po, .inl (cI, 6, .inl (nA op))), (pa, .inl (cI, 56, .inl (nA ((mwV sp sa op bh mo d k ah (i + 1)).2)))), (pb, .inl (cI, 56, .inl (nA bh)))] H := hP.sub [1, 2, 3, 4, 0, 5, 6] rfl
                have hD : va_D A [(h, .inr (4, [.int (nI kd), .int (nI n), .int (nI w), .int (nI ns), .int (nI hn), .int (nI hq), .int (nI en), .int (nI mo), .ref st, .ref sr])), (st, .inl (cI, 30, .inl (nA sp))), (sr, .inl (cI, 7, .inl (nA sa))), (hp, .inr (2, [.ref po, .ref pk, .ref pa, .ref pb, .ref pw, .ref ps, .int (nI tm)])), (po, .inl (cI, 6, .inl (nA op))), (pa, .inl (cI, 56, .inl (nA ((mwV sp sa op bh mo d k ah (i + 1)).2)))), (pb, .inl (cI, 56, .inl (nA bh)))] := hD.sub [1, 2, 3, 4, 0, 5, 6] (by decide) rfl
                refine lv_iinc (v := (nI (i + 1))) (lv' := [(4, .int (nI (i + 1))), (3, .int (nI ((mwV sp sa op bh mo d k ah (i + 1)).1))), (0, .ref h), (1, .int (nI k)), (2, .ref hp)]) hx hb d_Ma_wordsFrom_82 hl (k := 0) rfl (by exact nI_1 _) (by decide) rfl (fun ls hl => ?_)
                refine lv_goto (tgt := 25) hx hb d_Ma_wordsFrom_85 (by decide) ?_
                exact ih25 (i + 1) (by omega) (by omega) _ _ _ hP hD hS (lv_sub hl [0, 1, 2, 3, 4] rfl)
              · refine lv_iload_n hx hb d_Ma_wordsFrom_71 rfl (lv_at hl 1 rfl) ?_
                refine lv_aload_n hx hb d_Ma_wordsFrom_72 rfl (lv_at hl 2 rfl) ?_
                refine lv_iload_n hx hb d_Ma_wordsFrom_73 rfl (lv_at hl 3 rfl) ?_
                refine lv_iconst (v := (nI 1)) hx hb d_Ma_wordsFrom_74 (by decide) ?_
                refine lv_iadd hx hb d_Ma_wordsFrom_75 ?_
                refine t_eq (y := (nI (k + 1))) (nI_add _ _) ?_
                refine lv_aload_n hx hb d_Ma_wordsFrom_76 rfl (lv_at hl 4 rfl) ?_
                refine call_i (rm := { frames := 4 + d, cells := 0, slots := 0, locals := 160 + 60 * d }) hS hP hD hA (spl_mk (wc := [(h, .inr (4, [.int (nI kd), .int (nI n), .int (nI w), .int (nI ns), .int (nI hn), .int (nI hq), .int (nI en), .int (nI mo), .ref st, .ref sr])), (st, .inl (cI, 30, .inl (nA sp))), (sr, .inl (cI, 7, .inl (nA sa))), (hp, .inr (2, [.ref po, .ref pk, .ref pa, .ref pb, .ref pw, .ref ps, .int (nI tm)])), (po, .inl (cI, 6, .inl (nA op))), (pa, .inl (cI, 56, .inl (nA ((gaF sp bh k (mf ((mwV sp sa op bh mo d k ah i).2) (k + 1) 6) (sa i) (sa (i + 1) - sa i)).1)))), (pb, .inl (cI, 56, .inl (nA bh)))]) (wr := []) [1, 2, 3, 4, 0, 5, 6] [] rfl rfl (by decide)) (run_v (n := 2) (As := [.int (nI (k + 1)), .ref hp]) (rest := [.int (nI ((mwV sp sa op bh mo d k ah i).1))]) (q0 := 0) (ci := 4) C0 (hK.sub [] rfl) (ihr H.size h kd n w ns hn hq en mo st sr hp po pk pa pb pw ps tm sp sa op bh ((gaF sp bh k (mf ((mwV sp sa op bh mo d k ah i).2) (k + 1) 6) (sa i) (sa (i + 1) - sa i)).1) (k + 1) hsp hsa hs6 hop hbh (gaF_le (mf_le (mwV_le hah i)) _).1 hmo hn6 (by omega)) rfl rfl wt_600 wt_7 wt_597 wt_599 wp_11 (by decide +kernel) ⟨by simp only []; omega, by simp only []; omega⟩ rfl hl.1 rfl (Nat.le_of_ble_eq_true rfl) d_Ma_wordsFrom_77 ⟨Nat.le_refl _, Nat.le_refl _⟩) (fun r_77 _u77 H locs hw_77 hP hD hS => ?_)
                have hP : va_P D cls [(h, .inr (4, [.int (nI kd), .int (nI n), .int (nI w), .int (nI ns), .int (nI hn), .int (nI hq), .int (nI en), .int (nI mo), .ref st, .ref sr])), (st, .inl (cI, 30, .inl (nA sp))), (sr, .inl (cI, 7, .inl (nA sa))), (hp, .inr (2, [.ref po, .ref pk, .ref pa, .ref pb, .ref pw, .ref ps, .int (nI tm)])), (po, .inl (cI, 6, .inl (nA op))), (pa, .inl (cI, 56, .inl (nA ((mwF sp sa op bh mo d (k + 1) ((gaF sp bh k (mf ((mwV sp sa op bh mo d k ah i).2) (k + 1) 6) (sa i) (sa (i + 1) - sa i)).1)).2)))), (pb, .inl (cI, 56, .inl (nA bh)))] H := hP
                have hD : va_D A [(h, .inr (4, [.int (nI kd), .int (nI n), .int (nI w), .int (nI ns), .int (nI hn), .int (nI hq), .int (nI en), .int (nI mo), .ref st, .ref sr])), (st, .inl (cI, 30, .inl (nA sp))), (sr, .inl (cI, 7, .inl (nA sa))), (hp, .inr (2, [.ref po, .ref pk, .ref pa, .ref pb, .ref pw, .ref ps, .int (nI tm)])), (po, .inl (cI, 6, .inl (nA op))), (pa, .inl (cI, 56, .inl (nA ((mwF sp sa op bh mo d (k + 1) ((gaF sp bh k (mf ((mwV sp sa op bh mo d k ah i).2) (k + 1) 6) (sa i) (sa (i + 1) - sa i)).1)).2)))), (pb, .inl (cI, 56, .inl (nA bh)))] := hD
                subst hw_77
                refine lv_iadd hx hb d_Ma_wordsFrom_80 ?_
                refine t_eq (y := (nI (((mwV sp sa op bh mo d k ah i).1) + ((mwF sp sa op bh mo d (k + 1) (gaF sp bh k (mf (mwV sp sa op bh mo d k ah i).2 (k + 1) 6) (sa i) (sa (i + 1) - sa i)).1).1)))) (nI_add _ _) ?_
                refine lv_istore_n (lv' := [(3, .int (nI (((mwV sp sa op bh mo d k ah i).1) + ((mwF sp sa op bh mo d (k + 1) (gaF sp bh k (mf (mwV sp sa op bh mo d k ah i).2 (k + 1) 6) (sa i) (sa (i + 1) - sa i)).1).1)))), (4, .int (nI i)), (0, .ref h), (1, .int (nI k)), (2, .ref hp)]) hx hb d_Ma_wordsFrom_81 rfl hl (by decide) rfl (fun ls hl => ?_)
                have hl : lv_has ls 5 [(3, .int (nI ((mwV sp sa op bh mo d k ah (i + 1)).1))), (4, .int (nI i)), (0, .ref h), (1, .int (nI k)), (2, .ref hp)] := by rw [show (mwV sp sa op bh mo d k ah (i + 1)).1 = ((mwV sp sa op bh mo d k ah i).1) + ((mwF sp sa op bh mo d (k + 1) (gaF sp bh k (mf (mwV sp sa op bh mo d k ah i).2 (k + 1) 6) (sa i) (sa (i + 1) - sa i)).1).1) from (by rw [mwV_b c_43 c_68])]; exact hl
                rw [show ((mwF sp sa op bh mo d (k + 1) ((gaF sp bh k (mf ((mwV sp sa op bh mo d k ah i).2) (k + 1) 6) (sa i) (sa (i + 1) - sa i)).1)).2) = (mwV sp sa op bh mo d k ah (i + 1)).2 from (by rw [mwV_b c_43 c_68])] at hP hD
                refine lv_iinc (v := (nI (i + 1))) (lv' := [(4, .int (nI (i + 1))), (3, .int (nI ((mwV sp sa op bh mo d k ah (i + 1)).1))), (0, .ref h), (1, .int (nI k)), (2, .ref hp)]) hx hb d_Ma_wordsFrom_82 hl (k := 1) rfl (by exact nI_1 _) (by decide) rfl (fun ls hl => ?_)
                refine lv_goto (tgt := 25) hx hb d_Ma_wordsFrom_85 (by decide) ?_
                exact ih25 (i + 1) (by omega) (by omega) _ _ _ hP hD hS (lv_sub hl [0, 1, 2, 3, 4] rfl)
      exact L25 (7) 0 (by omega) (by omega) _ _ _ hP hD hS (lv_sub hl [0, 1, 2, 3, 4] rfl)
    · exact absurd c_15 (by omega)
theorem c_Ma_wordsFrom (l : Launch) (D : va_G) (cI : ClassId) (d : Nat) : ∀ (sz : Nat) (h : Nat) (kd : Nat) (n : Nat) (w : Nat) (ns : Nat) (hn : Nat) (hq : Nat) (en : Nat) (mo : Nat) (st : Nat) (sr : Nat) (hp : Nat) (po : Nat) (pk : Nat) (pa : Nat) (pb : Nat) (pw : Nat) (ps : Nat) (tm : Nat) (sp : Nat → Nat) (sa : Nat → Nat) (op : Nat → Nat) (bh : Nat → Nat) (ah : Nat → Nat) (k : Nat) (hsp : ∀ j, sp j < 8192) (hsa : ∀ j, j < 6 → sa j ≤ sa (j + 1)) (hs6 : ∀ j, j ≤ 6 → sa j ≤ 30) (hop : ∀ j, op j < 64) (hbh : ∀ j, bh j ≤ 1000000) (hah : ∀ j, ah j ≤ 1000000) (hmo : mo ≤ 1000) (hn6 : n ≤ 6) (hkd : k + d = n), MetI l y_Ma_wordsFrom b_Ma_wordsFrom 5 (some .int) { frames := 4 + d, cells := 0, slots := 0, locals := 160 + 60 * d } D cI [] sz [(h, .inr (4, [.int (nI kd), .int (nI n), .int (nI w), .int (nI ns), .int (nI hn), .int (nI hq), .int (nI en), .int (nI mo), .ref st, .ref sr])), (st, .inl (cI, 30, .inl (nA sp))), (sr, .inl (cI, 7, .inl (nA sa))), (hp, .inr (2, [.ref po, .ref pk, .ref pa, .ref pb, .ref pw, .ref ps, .int (nI tm)])), (po, .inl (cI, 6, .inl (nA op))), (pa, .inl (cI, 56, .inl (nA ah))), (pb, .inl (cI, 56, .inl (nA bh)))] [.ref h, .int (nI k), .ref hp] (fun (r : Int32) (u : Unit) => r = nI (mwF sp sa op bh mo d k ah).1) (fun u : Unit => [(h, .inr (4, [.int (nI kd), .int (nI n), .int (nI w), .int (nI ns), .int (nI hn), .int (nI hq), .int (nI en), .int (nI mo), .ref st, .ref sr])), (st, .inl (cI, 30, .inl (nA sp))), (sr, .inl (cI, 7, .inl (nA sa))), (hp, .inr (2, [.ref po, .ref pk, .ref pa, .ref pb, .ref pw, .ref ps, .int (nI tm)])), (po, .inl (cI, 6, .inl (nA op))), (pa, .inl (cI, 56, .inl (nA ((mwF sp sa op bh mo d k ah).2)))), (pb, .inl (cI, 56, .inl (nA bh)))]) := by
  induction d with
  | zero => exact mw_0 l D cI
  | succ d ih => exact fun sz h kd n w ns hn hq en mo st sr hp po pk pa pb pw ps tm sp sa op bh ah k => mw_s l D cI sz d h kd n w ns hn hq en mo st sr hp po pk pa pb pw ps tm sp sa op bh ah k ih
set_option maxHeartbeats 4000000 in
set_option maxRecDepth 100000 in
theorem c_Ma_openWords (l : Launch) (D : va_G) (cI : ClassId) (sz : Nat) (h : Nat) (kd : Nat) (n : Nat) (w : Nat) (ns : Nat) (hn : Nat) (hq : Nat) (en : Nat) (mo : Nat) (st : Nat) (sr : Nat) (hp : Nat) (po : Nat) (pk : Nat) (pa : Nat) (pb : Nat) (pw : Nat) (ps : Nat) (tm : Nat) (sp : Nat → Nat) (sa : Nat → Nat) (op : Nat → Nat) (bh : Nat → Nat) (ah : Nat → Nat) (hsp : ∀ j, sp j < 8192) (hsa : ∀ j, j < 6 → sa j ≤ sa (j + 1)) (hs6 : ∀ j, j ≤ 6 → sa j ≤ 30) (hop : ∀ j, op j < 64) (hbh : ∀ j, bh j ≤ 1000000) (hen : en < 64) (hmo : mo ≤ 1000) (hn1 : 1 ≤ n ∧ n ≤ 6) (hah : ∀ j, ah j ≤ 1000000) : MetI l y_Ma_openWords b_Ma_openWords 2 (some .int) { frames := 14, cells := 0, slots := 0, locals := 700 } D cI [] sz [(h, .inr (4, [.int (nI kd), .int (nI n), .int (nI w), .int (nI ns), .int (nI hn), .int (nI hq), .int (nI en), .int (nI mo), .ref st, .ref sr])), (st, .inl (cI, 30, .inl (nA sp))), (sr, .inl (cI, 7, .inl (nA sa))), (hp, .inr (2, [.ref po, .ref pk, .ref pa, .ref pb, .ref pw, .ref ps, .int (nI tm)])), (po, .inl (cI, 6, .inl (nA op))), (pa, .inl (cI, 56, .inl (nA ah))), (pb, .inl (cI, 56, .inl (nA bh)))] [.ref h, .ref hp] (fun (r : Int32) (u : Nat → Nat) => r = (if bhP sp sa op en n bh n 0 ≤ mo then nI (mwF sp sa op (bhP sp sa op en n bh n) mo n 0 (va_up (mf ah 0 6) 0 0)).1 else nI 0) ∧ ∀ j, u j ≤ 1000000) (fun u : Nat → Nat => [(h, .inr (4, [.int (nI kd), .int (nI n), .int (nI w), .int (nI ns), .int (nI hn), .int (nI hq), .int (nI en), .int (nI mo), .ref st, .ref sr])), (st, .inl (cI, 30, .inl (nA sp))), (sr, .inl (cI, 7, .inl (nA sa))), (hp, .inr (2, [.ref po, .ref pk, .ref pa, .ref pb, .ref pw, .ref ps, .int (nI tm)])), (po, .inl (cI, 6, .inl (nA op))), (pa, .inl (cI, 56, .inl (nA u))), (pb, .inl (cI, 56, .inl (nA (bhP sp sa op en n bh n))))]) := by
  refine enter (by decide) (Nat.le_of_ble_eq_true rfl) ?_
  intro p e s m below meth c A ls C0 hr hlk hnm hK hsz hA hAe hP hD hS hl
  have hx := C0.1
  have hb := C0.2.1
  have hl : lv_has ls 2 [(0, .ref h), (1, .ref hp)] := hl
  refine lv_aload_n hx hb d_Ma_openWords_0 rfl (lv_at hl 0 rfl) ?_
  refine lv_aload_n hx hb d_Ma_openWords_1 rfl (lv_at hl 1 rfl) ?_
  refine call_i (rm := { frames := 3, cells := 0, slots := 0, locals := 69 }) hS hP hD hA (spl_mk (wc := [(h, .inr (4, [.int (nI kd), .int (nI n), .int (nI w), .int (nI ns), .int (nI hn), .int (nI hq), .int (nI en), .int (nI mo), .ref st, .ref sr])), (st, .inl (cI, 30, .inl (nA sp))), (sr, .inl (cI, 7, .inl (nA sa))), (hp, .inr (2, [.ref po, .ref pk, .ref pa, .ref pb, .ref pw, .ref ps, .int (nI tm)])), (po, .inl (cI, 6, .inl (nA op))), (pb, .inl (cI, 56, .inl (nA bh)))]) (wr := [(pa, .inl (cI, 56, .inl (nA ah)))]) [0, 1, 2, 3, 4, 6] [5] rfl rfl (by decide)) (run_v (n := 1) (As := [.ref hp]) (rest := []) (q0 := 0) (ci := 4) C0 (hK.sub [] rfl) (c_Ma_leastCost l D cI s.heap.size h kd n w ns hn hq en mo st sr hp po pk pa pb pw ps tm sp sa op bh hsp hsa hs6 hop hbh (by omega) (by omega) (by omega)) rfl rfl wt_491 wt_7 wt_488 wt_489 wt_490 (by decide +kernel) ⟨Nat.le_of_ble_eq_true rfl, Nat.le_of_ble_eq_true rfl⟩ rfl hl.1 rfl (Nat.le_of_ble_eq_true rfl) d_Ma_openWords_2 ⟨Nat.le_of_ble_eq_true rfl, Nat.le_of_ble_eq_true rfl⟩) (fun r_2 _u2 H locs hw_2 hP hD hS => ?_)
  have hP : va_P D cls [(pa, .inl (cI, 56, .inl (nA ah))), (h, .inr (4, [.int (nI kd), .int (nI n), .int (nI w), .int (nI ns), .int (nI hn), .int (nI hq), .int (nI en), .int (nI mo), .ref st, .ref sr])), (st, .inl (cI, 30, .inl (nA sp))), (sr, .inl (cI, 7, .inl (nA sa))), (hp, .inr (2, [.ref po, .ref pk, .ref pa, .ref pb, .ref pw, .ref ps, .int (nI tm)])), (po, .inl (cI, 6, .inl (nA op))), (pb, .inl (cI, 56, .inl (nA (bhP sp sa op en n bh n))))] H := hP
  have hD : va_D A [(pa, .inl (cI, 56, .inl (nA ah))), (h, .inr (4, [.int (nI kd), .int (nI n), .int (nI w), .int (nI ns), .int (nI hn), .int (nI hq), .int (nI en), .int (nI mo), .ref st, .ref sr])), (st, .inl (cI, 30, .inl (nA sp))), (sr, .inl (cI, 7, .inl (nA sa))), (hp, .inr (2, [.ref po, .ref pk, .ref pa, .ref pb, .ref pw, .ref ps, .int (nI tm)])), (po, .inl (cI, 6, .inl (nA op))), (pb, .inl (cI, 56, .inl (nA (bhP sp sa op en n bh n))))] := hD
  subst hw_2
  refine lv_iconst (v := (-1)) hx hb d_Ma_openWords_5 (by decide) ?_
  refine lv_icmp_ne (tgt := 11) hx hb d_Ma_openWords_6 (by decide) (fun c_6 => ?_) (fun c_6 => ?_)
  · have c_6 := lcI_n c_6
    refine lv_aload_n hx hb d_Ma_openWords_11 rfl (lv_at hl 0 rfl) ?_
    refine lv_aload_n hx hb d_Ma_openWords_12 rfl (lv_at hl 1 rfl) ?_
    refine call_v (rm := { frames := 2, cells := 0, slots := 0, locals := 44 }) hS hP hD hA (spl_mk (wc := [(h, .inr (4, [.int (nI kd), .int (nI n), .int (nI w), .int (nI ns), .int (nI hn), .int (nI hq), .int (nI en), .int (nI mo), .ref st, .ref sr])), (hp, .inr (2, [.ref po, .ref pk, .ref pa, .ref pb, .ref pw, .ref ps, .int (nI tm)])), (pa, .inl (cI, 56, .inl (nA ah)))]) (wr := [(st, .inl (cI, 30, .inl (nA sp))), (sr, .inl (cI, 7, .inl (nA sa))), (po, .inl (cI, 6, .inl (nA op))), (pb, .inl (cI, 56, .inl (nA (bhP sp sa op en n bh n))))]) [1, 4, 0] [2, 3, 5, 6] rfl rfl (by decide)) (run_v (n := 1) (As := [.ref hp]) (rest := []) (q0 := 0) (ci := 4) C0 (hK.sub [] rfl) (c_Ma_startAhead l D cI H.size h kd n w ns hn hq en mo st sr hp po pk pa pb pw ps tm ah) rfl rfl wt_512 wt_7 wt_509 wt_511 wp_6 (by decide +kernel) ⟨Nat.le_of_ble_eq_true rfl, Nat.le_of_ble_eq_true rfl⟩ rfl hl.1 rfl (Nat.le_of_ble_eq_true rfl) d_Ma_openWords_13 ⟨Nat.le_of_ble_eq_true rfl, Nat.le_of_ble_eq_true rfl⟩) (fun _u13 H locs hw_13 hP hD hS => ?_)
    have hP : va_P D cls [(st, .inl (cI, 30, .inl (nA sp))), (sr, .inl (cI, 7, .inl (nA sa))), (po, .inl (cI, 6, .inl (nA op))), (pb, .inl (cI, 56, .inl (nA (bhP sp sa op en n bh n)))), (h, .inr (4, [.int (nI kd), .int (nI n), .int (nI w), .int (nI ns), .int (nI hn), .int (nI hq), .int (nI en), .int (nI mo), .ref st, .ref sr])), (hp, .inr (2, [.ref po, .ref pk, .ref pa, .ref pb, .ref pw, .ref ps, .int (nI tm)])), (pa, .inl (cI, 56, .inl (nA (va_up (mf ah 0 6) 0 0))))] H := hP
    have hD : va_D A [(st, .inl (cI, 30, .inl (nA sp))), (sr, .inl (cI, 7, .inl (nA sa))), (po, .inl (cI, 6, .inl (nA op))), (pb, .inl (cI, 56, .inl (nA (bhP sp sa op en n bh n)))), (h, .inr (4, [.int (nI kd), .int (nI n), .int (nI w), .int (nI ns), .int (nI hn), .int (nI hq), .int (nI en), .int (nI mo), .ref st, .ref sr])), (hp, .inr (2, [.ref po, .ref pk, .ref pa, .ref pb, .ref pw, .ref ps, .int (nI tm)])), (pa, .inl (cI, 56, .inl (nA (va_up (mf ah 0 6) 0 0))))] := hD
    have hbn := bhP_le (sp := sp) (sa := sa) (op := op) (en := en) (n := n) hbh n
    have hah0 : ∀ j, (va_up (mf ah 0 6) 0 0) j ≤ 1000000 := up_le (mf_le hah) (Nat.zero_le _)
    refine lv_aload_n hx hb d_Ma_openWords_16 rfl (lv_at hl 0 rfl) ?_
    refine lv_iconst (v := (nI 0)) hx hb d_Ma_openWords_17 (by decide) ?_
    refine lv_aload_n hx hb d_Ma_openWords_18 rfl (lv_at hl 1 rfl) ?_
    refine call_i (rm := { frames := 4 + n, cells := 0, slots := 0, locals := 160 + 60 * n }) hS hP hD hA (spl_mk (wc := [(h, .inr (4, [.int (nI kd), .int (nI n), .int (nI w), .int (nI ns), .int (nI hn), .int (nI hq), .int (nI en), .int (nI mo), .ref st, .ref sr])), (st, .inl (cI, 30, .inl (nA sp))), (sr, .inl (cI, 7, .inl (nA sa))), (hp, .inr (2, [.ref po, .ref pk, .ref pa, .ref pb, .ref pw, .ref ps, .int (nI tm)])), (po, .inl (cI, 6, .inl (nA op))), (pa, .inl (cI, 56, .inl (nA (va_up (mf ah 0 6) 0 0)))), (pb, .inl (cI, 56, .inl (nA (bhP sp sa op en n bh n))))]) (wr := []) [4, 0, 1, 5, 2, 6, 3] [] rfl rfl (by decide)) (run_v (n := 2) (As := [.int (nI 0), .ref hp]) (rest := []) (q0 := 0) (ci := 4) C0 (hK.sub [] rfl) (c_Ma_wordsFrom l D cI n H.size h kd n w ns hn hq en mo st sr hp po pk pa pb pw ps tm sp sa op (bhP sp sa op en n bh n) (va_up (mf ah 0 6) 0 0) 0 hsp hsa hs6 hop hbn hah0 hmo hn1.2 (by omega)) rfl rfl wt_600 wt_7 wt_597 wt_599 wp_11 (by decide +kernel) ⟨by simp only []; omega, by simp only []; omega⟩ rfl hl.1 rfl (Nat.le_of_ble_eq_true rfl) d_Ma_openWords_19 ⟨Nat.le_refl _, Nat.le_refl _⟩) (fun r_19 _u19 H locs hw_19 hP hD hS => ?_)
    have hP : va_P D cls [(h, .inr (4, [.int (nI kd), .int (nI n), .int (nI w), .int (nI ns), .int (nI hn), .int (nI hq), .int (nI en), .int (nI mo), .ref st, .ref sr])), (st, .inl (cI, 30, .inl (nA sp))), (sr, .inl (cI, 7, .inl (nA sa))), (hp, .inr (2, [.ref po, .ref pk, .ref pa, .ref pb, .ref pw, .ref ps, .int (nI tm)])), (po, .inl (cI, 6, .inl (nA op))), (pa, .inl (cI, 56, .inl (nA ((mwF sp sa op (bhP sp sa op en n bh n) mo n 0 (va_up (mf ah 0 6) 0 0)).2)))), (pb, .inl (cI, 56, .inl (nA (bhP sp sa op en n bh n))))] H := hP
    have hD : va_D A [(h, .inr (4, [.int (nI kd), .int (nI n), .int (nI w), .int (nI ns), .int (nI hn), .int (nI hq), .int (nI en), .int (nI mo), .ref st, .ref sr])), (st, .inl (cI, 30, .inl (nA sp))), (sr, .inl (cI, 7, .inl (nA sa))), (hp, .inr (2, [.ref po, .ref pk, .ref pa, .ref pb, .ref pw, .ref ps, .int (nI tm)])), (po, .inl (cI, 6, .inl (nA op))), (pa, .inl (cI, 56, .inl (nA ((mwF sp sa op (bhP sp sa op en n bh n) mo n 0 (va_up (mf ah 0 6) 0 0)).2)))), (pb, .inl (cI, 56, .inl (nA (bhP sp sa op en n bh n))))] := hD
    subst hw_19
    exact ret_i C0 hr hlk hAe hS ((mwF sp sa op (bhP sp sa op en n bh n) mo n 0 (va_up (mf ah 0 6) 0 0)).2) (⟨by rw [if_pos c_6], mw_le n 0 _ hah0⟩) hP hD rfl (Nat.le_of_ble_eq_true rfl) (Nat.le_of_ble_eq_true rfl) d_Ma_openWords_22
  · have hbn := bhP_le (sp := sp) (sa := sa) (op := op) (en := en) (n := n) hbh n
    have c_6 := lcI_m (Nat.lt_of_le_of_lt (hbn 0) (by decide)) c_6
    refine lv_iconst (v := (nI 0)) hx hb d_Ma_openWords_9 (by decide) ?_
    exact ret_i C0 hr hlk hAe hS ah (⟨by rw [if_neg (by omega)], hah⟩) (hP.sub [1, 2, 3, 4, 5, 0, 6] rfl) (hD.sub [1, 2, 3, 4, 5, 0, 6] (by decide) rfl) rfl (Nat.le_of_ble_eq_true rfl) (Nat.le_of_ble_eq_true rfl) d_Ma_openWords_10
set_option maxHeartbeats 4000000 in
set_option maxRecDepth 100000 in
theorem c_Ma_put (l : Launch) (D : va_G) (cI : ClassId) (sz : Nat) (h : Nat) (kd : Nat) (n : Nat) (w : Nat) (ns : Nat) (hn : Nat) (hq : Nat) (en : Nat) (mo : Nat) (st : Nat) (sr : Nat) (sp : Nat → Nat) (sa : Nat → Nat) (fr : Nat) (v : Nat) (to : Nat) (co : Nat) (hsa : ∀ j, j < 6 → sa j ≤ sa (j + 1)) (hat : sa (v + 1) ≤ sa 6) (hs30 : sa 6 ≤ 30) (hv : v < 6) (hfr : fr < 6) (hto : to < 6) (hco : co ≤ 100) : MetI l y_Ma_put b_Ma_put 8 (some .int) { frames := 2, cells := 0, slots := 0, locals := 42 } D cI [] sz [(h, .inr (4, [.int (nI kd), .int (nI n), .int (nI w), .int (nI ns), .int (nI hn), .int (nI hq), .int (nI en), .int (nI mo), .ref st, .ref sr])), (st, .inl (cI, 30, .inl (nA sp))), (sr, .inl (cI, 7, .inl (nA sa)))] [.ref h, .int (nI fr), .int (nI v), .int (nI to), .int (nI co)] (fun (r : Int32) (u : (Nat → Nat) × (Nat → Nat)) => (sa 6 < 30 ∧ r = nI (sa 6 + 1) ∧ u = (insF sp (sa (v + 1)) (sa 6) ((fr ||| to * 2 ^ 3) ||| co * 2 ^ 6), saI sa v 7)) ∨ (30 ≤ sa 6 ∧ r = -3 ∧ u = (sp, sa))) (fun u : (Nat → Nat) × (Nat → Nat) => [(h, .inr (4, [.int (nI kd), .int (nI n), .int (nI w), .int (nI ns), .int (nI hn), .int (nI hq), .int (nI en), .int (nI mo), .ref st, .ref sr])), (st, .inl (cI, 30, .inl (nA u.1))), (sr, .inl (cI, 7, .inl (nA u.2)))]) := by
  refine enter (by decide) (Nat.le_of_ble_eq_true rfl) ?_
  intro p e s m below meth c A ls C0 hr hlk hnm hK hsz hA hAe hP hD hS hl
  have hx := C0.1
  have hb := C0.2.1
  have hl : lv_has ls 8 [(0, .ref h), (1, .int (nI fr)), (2, .int (nI v)), (3, .int (nI to)), (4, .int (nI co))] := hl
  refine lv_aload_n hx hb d_Ma_put_0 rfl (lv_at hl 0 rfl) ?_
  refine r_get C0 hK hP 0 rfl rfl i_Ma 9 (by decide) wt_240 (fun _ h => h) rfl d_Ma_put_1 ?_
  refine lv_bipush (v := (nI 6)) hx hb d_Ma_put_4 (by decide) ?_
  refine r_ald C0 hK hP 2 rfl (by omega) (by decide) d_Ma_put_6 ?_
  refine t_eq (y := (nI (sa 6))) rfl ?_
  refine lv_istore (lv' := [(5, .int (nI (sa 6))), (0, .ref h), (1, .int (nI fr)), (2, .int (nI v)), (3, .int (nI to)), (4, .int (nI co))]) hx hb d_Ma_put_7 hl (by decide) rfl (fun ls hl => ?_)
  refine lv_iload hx hb d_Ma_put_9 (lv_at hl 0 rfl) ?_
  refine lv_bipush (v := (nI 30)) hx hb d_Ma_put_11 (by decide) ?_
  refine b_lt (tgt := 19) hx hb (by omega) (by decide) d_Ma_put_13 (by decide) (fun c_13 => ?_) (fun c_13 => ?_)
  · refine lv_iload_n hx hb d_Ma_put_19 rfl (lv_at hl 3 rfl) ?_
    refine call_i (rm := { frames := 1, cells := 0, slots := 0, locals := 22 }) hS hP hD hA (spl_mk (wc := []) (wr := [(h, .inr (4, [.int (nI kd), .int (nI n), .int (nI w), .int (nI ns), .int (nI hn), .int (nI hq), .int (nI en), .int (nI mo), .ref st, .ref sr])), (st, .inl (cI, 30, .inl (nA sp))), (sr, .inl (cI, 7, .inl (nA sa)))]) [] [0, 1, 2] rfl rfl (by decide)) (run_sN (n := 1) (As := [.int (nI v)]) (rest := []) C0 (hK.sub [] rfl) (c_TC_isValue l D cI s.heap.size (nI v)) wt_221 wt_1 wn_267 wt_220 (by decide +kernel) ⟨Nat.le_of_ble_eq_true rfl, Nat.le_of_ble_eq_true rfl⟩ rfl hl.1 rfl (Nat.le_of_ble_eq_true rfl) d_Ma_put_20 ⟨Nat.le_of_ble_eq_true rfl, Nat.le_of_ble_eq_true rfl⟩) (fun r_20 _u20 H locs hw_20 hP hD hS => ?_)
    have hP : va_P D cls [(h, .inr (4, [.int (nI kd), .int (nI n), .int (nI w), .int (nI ns), .int (nI hn), .int (nI hq), .int (nI en), .int (nI mo), .ref st, .ref sr])), (st, .inl (cI, 30, .inl (nA sp))), (sr, .inl (cI, 7, .inl (nA sa)))] H := hP
    have hD : va_D A [(h, .inr (4, [.int (nI kd), .int (nI n), .int (nI w), .int (nI ns), .int (nI hn), .int (nI hq), .int (nI en), .int (nI mo), .ref st, .ref sr])), (st, .inl (cI, 30, .inl (nA sp))), (sr, .inl (cI, 7, .inl (nA sa)))] := hD
    subst hw_20
    refine t_eq (y := (bI (decide (v ≤ 5)))) (by rw [nat_in (by omega) (by decide)]) ?_
    refine y_ne (tgt := 29) hx hb d_Ma_put_23 (by decide) (fun c_23 => ?_) (fun c_23 => ?_)
    · refine lv_aload_n hx hb d_Ma_put_29 rfl (lv_at hl 1 rfl) ?_
      refine r_get C0 hK hP 0 rfl rfl i_Ma 9 (by decide) wt_240 (fun _ h => h) rfl d_Ma_put_30 ?_
      refine lv_iload_n hx hb d_Ma_put_33 rfl (lv_at hl 3 rfl) ?_
      refine lv_iconst (v := (nI 1)) hx hb d_Ma_put_34 (by decide) ?_
      refine lv_iadd hx hb d_Ma_put_35 ?_
      refine t_eq (y := (nI (v + 1))) (nI_add _ _) ?_
      refine r_ald C0 hK hP 2 rfl (by omega) (by decide) d_Ma_put_36 ?_
      refine t_eq (y := (nI (sa (v + 1)))) rfl ?_
      refine lv_istore (lv' := [(6, .int (nI (sa (v + 1)))), (5, .int (nI (sa 6))), (0, .ref h), (1, .int (nI fr)), (2, .int (nI v)), (3, .int (nI to)), (4, .int (nI co))]) hx hb d_Ma_put_37 hl (by decide) rfl (fun ls hl => ?_)
      refine lv_iload hx hb d_Ma_put_39 (lv_at hl 1 rfl) ?_
      refine lv_istore (lv' := [(7, .int (nI (sa 6))), (6, .int (nI (sa (v + 1)))), (5, .int (nI (sa 6))), (0, .ref h), (1, .int (nI fr)), (2, .int (nI v)), (3, .int (nI to)), (4, .int (nI co))]) hx hb d_Ma_put_41 hl (by decide) rfl (fun ls hl => ?_)
      rw [show sp = shF sp (sa 6) (sa 6) from shF_0.symm] at hP hD
      have L43 : ∀ (fuel43 : Nat) (i : Nat), (i ≤ sa 6) → (sa (v + 1) ≤ i) → (i < sa (v + 1) + fuel43) → ∀ (H : Heap) (locs : List Loc) (ls : Array Slot), va_P D cls [(h, .inr (4, [.int (nI kd), .int (nI n), .int (nI w), .int (nI ns), .int (nI hn), .int (nI hq), .int (nI en), .int (nI mo), .ref st, .ref sr])), (st, .inl (cI, 30, .inl (nA (shF sp i (sa 6))))), (sr, .inl (cI, 7, .inl (nA sa)))] H → va_D A [(h, .inr (4, [.int (nI kd), .int (nI n), .int (nI w), .int (nI ns), .int (nI hn), .int (nI hq), .int (nI en), .int (nI mo), .ref st, .ref sr])), (st, .inl (cI, 30, .inl (nA (shF sp i (sa 6))))), (sr, .inl (cI, 7, .inl (nA sa)))] → va_S A s.heap H locs → lv_has ls 8 [(7, .int (nI i)), (5, .int (nI (sa 6))), (6, .int (nI (sa (v + 1)))), (0, .ref h), (1, .int (nI fr)), (2, .int (nI v)), (3, .int (nI to)), (4, .int (nI co))] → W p l e { frames := 2, cells := 0, slots := 0, locals := 42 } s m ([.ref h, .int (nI fr), .int (nI v), .int (nI to), .int (nI co)] : List Value).toArray below meth c H locs 0 0 (MQ below (pstI D [(h, .inr (4, [.int (nI kd), .int (nI n), .int (nI w), .int (nI ns), .int (nI hn), .int (nI hq), .int (nI en), .int (nI mo), .ref st, .ref sr])), (st, .inl (cI, 30, .inl (nA sp))), (sr, .inl (cI, 7, .inl (nA sa)))] sz (fun (r : Int32) (u : (Nat → Nat) × (Nat → Nat)) => (sa 6 < 30 ∧ r = nI (sa 6 + 1) ∧ u = (insF sp (sa (v + 1)) (sa 6) ((fr ||| to * 2 ^ 3) ||| co * 2 ^ 6), saI sa v 7)) ∨ (30 ≤ sa 6 ∧ r = -3 ∧ u = (sp, sa))) (fun u : (Nat → Nat) × (Nat → Nat) => [(h, .inr (4, [.int (nI kd), .int (nI n), .int (nI w), .int (nI ns), .int (nI hn), .int (nI hq), .int (nI en), .int (nI mo), .ref st, .ref sr])), (st, .inl (cI, 30, .inl (nA u.1))), (sr, .inl (cI, 7, .inl (nA u.2)))])) ([.ref h, .int (nI fr), .int (nI v), .int (nI to), .int (nI co)] : List Value).toArray s 0 0 A) (F0 m 43 ls []) := by
        intro fuel43
        induction fuel43 with
        | zero => intros; omega
        | succ fuel43 ih43 =>
          intro i hi hia hfu H locs ls hP hD hS hl
          refine lv_iload hx hb d_Ma_put_43 (lv_at hl 0 rfl) ?_
          refine lv_iload hx hb d_Ma_put_45 (lv_at hl 2 rfl) ?_
          refine b_le (tgt := 77) hx hb (by omega) (by omega) d_Ma_put_47 (by decide) (fun c_47 => ?_) (fun c_47 => ?_)
          · have hie : i = sa (v + 1) := by omega
            rw [hie] at hP hD
            have hl : lv_has ls 8 [(5, .int (nI (sa 6))), (6, .int (nI (sa (v + 1)))), (0, .ref h), (1, .int (nI fr)), (2, .int (nI v)), (3, .int (nI to)), (4, .int (nI co))] := lv_sub hl [1, 2, 3, 4, 5, 6, 7] rfl
            refine lv_iload hx hb d_Ma_put_77 (lv_at hl 1 rfl) ?_
            refine z_lt (tgt := 107) hx hb (by omega) d_Ma_put_79 (by decide) ?_
            refine lv_iload hx hb d_Ma_put_82 (lv_at hl 1 rfl) ?_
            refine lv_bipush (v := (nI 30)) hx hb d_Ma_put_84 (by decide) ?_
            refine b_ge (tgt := 107) hx hb (by omega) (by decide) d_Ma_put_86 (by decide) (fun c_86 => ?_) (fun c_86 => ?_)
            · exact absurd c_86 (by omega)
            · refine lv_aload_n hx hb d_Ma_put_89 rfl (lv_at hl 2 rfl) ?_
              refine r_get C0 hK hP 0 rfl rfl i_Ma 8 (by decide) wt_239 (fun _ h => h) rfl d_Ma_put_90 ?_
              refine lv_iload hx hb d_Ma_put_93 (lv_at hl 1 rfl) ?_
              refine lv_iload_n hx hb d_Ma_put_95 rfl (lv_at hl 3 rfl) ?_
              refine lv_iload_n hx hb d_Ma_put_96 rfl (lv_at hl 5 rfl) ?_
              refine lv_iconst (v := (nI 3)) hx hb d_Ma_put_97 (by decide) ?_
              refine lv_ishl hx hb d_Ma_put_98 ?_
              refine t_eq (y := (nI (to * 2 ^ 3))) (m_shl _ (by decide)) ?_
              refine lv_ior hx hb d_Ma_put_99 ?_
              refine t_eq (y := (nI (fr ||| (to * 2 ^ 3)))) (m_or _ _) ?_
              refine lv_iload hx hb d_Ma_put_100 (lv_at hl 6 rfl) ?_
              refine lv_bipush (v := (nI 6)) hx hb d_Ma_put_102 (by decide) ?_
              refine lv_ishl hx hb d_Ma_put_104 ?_
              refine t_eq (y := (nI (co * 2 ^ 6))) (m_shl _ (by decide)) ?_
              refine lv_ior hx hb d_Ma_put_105 ?_
              refine t_eq (y := (nI ((fr ||| (to * 2 ^ 3)) ||| (co * 2 ^ 6)))) (m_or _ _) ?_
              refine r_astN C0 hK hP hD hS 1 rfl (by omega) (by decide) d_Ma_put_106 (fun H locs hP hD hS => ?_)
              have hP : va_P D cls [(h, .inr (4, [.int (nI kd), .int (nI n), .int (nI w), .int (nI ns), .int (nI hn), .int (nI hq), .int (nI en), .int (nI mo), .ref st, .ref sr])), (st, .inl (cI, 30, .inl (nA (va_up (shF sp (sa (v + 1)) (sa 6)) (sa (v + 1)) ((fr ||| (to * 2 ^ 3)) ||| (co * 2 ^ 6)))))), (sr, .inl (cI, 7, .inl (nA sa)))] H := hP
              have hD : va_D A [(h, .inr (4, [.int (nI kd), .int (nI n), .int (nI w), .int (nI ns), .int (nI hn), .int (nI hq), .int (nI en), .int (nI mo), .ref st, .ref sr])), (st, .inl (cI, 30, .inl (nA (va_up (shF sp (sa (v + 1)) (sa 6)) (sa (v + 1)) ((fr ||| (to * 2 ^ 3)) ||| (co * 2 ^ 6)))))), (sr, .inl (cI, 7, .inl (nA sa)))] := hD
              rw [show (va_up (shF sp (sa (v + 1)) (sa 6)) (sa (v + 1)) ((fr ||| (to * 2 ^ 3)) ||| (co * 2 ^ 6))) = insF sp (sa (v + 1)) (sa 6) ((fr ||| to * 2 ^ 3) ||| co * 2 ^ 6) from rfl] at hP hD
              refine lv_iload_n hx hb d_Ma_put_107 rfl (lv_at hl 4 rfl) ?_
              refine lv_iconst (v := (nI 1)) hx hb d_Ma_put_108 (by decide) ?_
              refine lv_iadd hx hb d_Ma_put_109 ?_
              refine t_eq (y := (nI (v + 1))) (nI_add _ _) ?_
              refine lv_istore (lv' := [(7, .int (nI (v + 1))), (5, .int (nI (sa 6))), (6, .int (nI (sa (v + 1)))), (0, .ref h), (1, .int (nI fr)), (2, .int (nI v)), (3, .int (nI to)), (4, .int (nI co))]) hx hb d_Ma_put_110 hl (by decide) rfl (fun ls hl => ?_)
              have hQe : sa = saI sa v (v + 1) := saI_0.symm
              have hP : va_P D cls [(h, .inr (4, [.int (nI kd), .int (nI n), .int (nI w), .int (nI ns), .int (nI hn), .int (nI hq), .int (nI en), .int (nI mo), .ref st, .ref sr])), (st, .inl (cI, 30, .inl (nA (insF sp (sa (v + 1)) (sa 6) ((fr ||| to * 2 ^ 3) ||| co * 2 ^ 6))))), (sr, .inl (cI, 7, .inl (nA (saI sa v (v + 1)))))] H := by rw [← hQe]; exact hP
              have hD : va_D A [(h, .inr (4, [.int (nI kd), .int (nI n), .int (nI w), .int (nI ns), .int (nI hn), .int (nI hq), .int (nI en), .int (nI mo), .ref st, .ref sr])), (st, .inl (cI, 30, .inl (nA (insF sp (sa (v + 1)) (sa 6) ((fr ||| to * 2 ^ 3) ||| co * 2 ^ 6))))), (sr, .inl (cI, 7, .inl (nA (saI sa v (v + 1)))))] := by rw [← hQe]; exact hD
              have L112 : ∀ (fuel112 : Nat) (i2 : Nat), (i2 ≤ 7) → (v < i2) → (7 < i2 + fuel112) → ∀ (H : Heap) (locs : List Loc) (ls : Array Slot), va_P D cls [(h, .inr (4, [.int (nI kd), .int (nI n), .int (nI w), .int (nI ns), .int (nI hn), .int (nI hq), .int (nI en), .int (nI mo), .ref st, .ref sr])), (st, .inl (cI, 30, .inl (nA (insF sp (sa (v + 1)) (sa 6) ((fr ||| to * 2 ^ 3) ||| co * 2 ^ 6))))), (sr, .inl (cI, 7, .inl (nA (saI sa v i2))))] H → va_D A [(h, .inr (4, [.int (nI kd), .int (nI n), .int (nI w), .int (nI ns), .int (nI hn), .int (nI hq), .int (nI en), .int (nI mo), .ref st, .ref sr])), (st, .inl (cI, 30, .inl (nA (insF sp (sa (v + 1)) (sa 6) ((fr ||| to * 2 ^ 3) ||| co * 2 ^ 6))))), (sr, .inl (cI, 7, .inl (nA (saI sa v i2))))] → va_S A s.heap H locs → lv_has ls 8 [(7, .int (nI i2)), (5, .int (nI (sa 6))), (6, .int (nI (sa (v + 1)))), (0, .ref h), (1, .int (nI fr)), (2, .int (nI v)), (3, .int (nI to)), (4, .int (nI co))] → W p l e { frames := 2, cells := 0, slots := 0, locals := 42 } s m ([.ref h, .int (nI fr), .int (nI v), .int (nI to), .int (nI co)] : List Value).toArray below meth c H locs 0 0 (MQ below (pstI D [(h, .inr (4, [.int (nI kd), .int (nI n), .int (nI w), .int (nI ns), .int (nI hn), .int (nI hq), .int (nI en), .int (nI mo), .ref st, .ref sr])), (st, .inl (cI, 30, .inl (nA sp))), (sr, .inl (cI, 7, .inl (nA sa)))] sz (fun (r : Int32) (u : (Nat → Nat) × (Nat → Nat)) => (sa 6 < 30 ∧ r = nI (sa 6 + 1) ∧ u = (insF sp (sa (v + 1)) (sa 6) ((fr ||| to * 2 ^ 3) ||| co * 2 ^ 6), saI sa v 7)) ∨ (30 ≤ sa 6 ∧ r = -3 ∧ u = (sp, sa))) (fun u : (Nat → Nat) × (Nat → Nat) => [(h, .inr (4, [.int (nI kd), .int (nI n), .int (nI w), .int (nI ns), .int (nI hn), .int (nI hq), .int (nI en), .int (nI mo), .ref st, .ref sr])), (st, .inl (cI, 30, .inl (nA u.1))), (sr, .inl (cI, 7, .inl (nA u.2)))])) ([.ref h, .int (nI fr), .int (nI v), .int (nI to), .int (nI co)] : List Value).toArray s 0 0 A) (F0 m 112 ls []) := by
                intro fuel112
                induction fuel112 with
                | zero => intros; omega
                | succ fuel112 ih112 =>
                  intro i2 hj hj2 hfu2 H locs ls hP hD hS hl
                  refine lv_iload hx hb d_Ma_put_112 (lv_at hl 0 rfl) ?_
                  refine lv_bipush (v := (nI 6)) hx hb d_Ma_put_114 (by decide) ?_
                  refine b_gt (tgt := 136) hx hb (by omega) (by decide) d_Ma_put_116 (by decide) (fun c_116 => ?_) (fun c_116 => ?_)
                  · obtain rfl : i2 = 7 := (by omega)
                    refine lv_aload_n hx hb d_Ma_put_136 rfl (lv_at hl 3 rfl) ?_
                    refine r_get C0 hK hP 0 rfl rfl i_Ma 9 (by decide) wt_240 (fun _ h => h) rfl d_Ma_put_137 ?_
                    refine lv_bipush (v := (nI 6)) hx hb d_Ma_put_140 (by decide) ?_
                    refine r_ald C0 hK hP 2 rfl (by omega) (by decide) d_Ma_put_142 ?_
                    refine t_eq (y := (nI ((saI sa v 7) 6))) rfl ?_
                    exact ret_i C0 hr hlk hAe hS (insF sp (sa (v + 1)) (sa 6) ((fr ||| to * 2 ^ 3) ||| co * 2 ^ 6), saI sa v 7) (Or.inl ⟨c_13, by rw [saI_6 hv], rfl⟩) hP hD rfl (Nat.le_of_ble_eq_true rfl) (Nat.le_of_ble_eq_true rfl) d_Ma_put_143
                  · refine lv_aload_n hx hb d_Ma_put_119 rfl (lv_at hl 3 rfl) ?_
                    refine r_get C0 hK hP 0 rfl rfl i_Ma 9 (by decide) wt_240 (fun _ h => h) rfl d_Ma_put_120 ?_
                    refine lv_iload hx hb d_Ma_put_123 (lv_at hl 0 rfl) ?_
                    refine lv_dup2_11 hx hb d_Ma_put_125 rfl rfl ?_
                    refine r_ald C0 hK hP 2 rfl (by omega) (by decide) d_Ma_put_126 ?_
                    refine t_eq (y := (nI ((saI sa v i2) i2))) rfl ?_
                    refine lv_iconst (v := (nI 1)) hx hb d_Ma_put_127 (by decide) ?_
                    refine lv_iadd hx hb d_Ma_put_128 ?_
                    refine t_eq (y := (nI (((saI sa v i2) i2) + 1))) (nI_add _ _) ?_
                    refine r_astN C0 hK hP hD hS 2 rfl (by omega) (by decide) d_Ma_put_129 (fun H locs hP hD hS => ?_)
                    have hP : va_P D cls [(h, .inr (4, [.int (nI kd), .int (nI n), .int (nI w), .int (nI ns), .int (nI hn), .int (nI hq), .int (nI en), .int (nI mo), .ref st, .ref sr])), (st, .inl (cI, 30, .inl (nA (insF sp (sa (v + 1)) (sa 6) ((fr ||| to * 2 ^ 3) ||| co * 2 ^ 6))))), (sr, .inl (cI, 7, .inl (nA (va_up (saI sa v i2) i2 (((saI sa v i2) i2) + 1)))))] H := hP
                    have hD : va_D A [(h, .inr (4, [.int (nI kd), .int (nI n), .int (nI w), .int (nI ns), .int (nI hn), .int (nI hq), .int (nI en), .int (nI mo), .ref st, .ref sr])), (st, .inl (cI, 30, .inl (nA (insF sp (sa (v + 1)) (sa 6) ((fr ||| to * 2 ^ 3) ||| co * 2 ^ 6))))), (sr, .inl (cI, 7, .inl (nA (va_up (saI sa v i2) i2 (((saI sa v i2) i2) + 1)))))] := hD
                    rw [show (va_up (saI sa v i2) i2 (((saI sa v i2) i2) + 1)) = saI sa v (i2 + 1) from saI_s hj2] at hP hD
                    refine lv_iinc (v := (nI (i2 + 1))) (lv' := [(7, .int (nI (i2 + 1))), (5, .int (nI (sa 6))), (6, .int (nI (sa (v + 1)))), (0, .ref h), (1, .int (nI fr)), (2, .int (nI v)), (3, .int (nI to)), (4, .int (nI co))]) hx hb d_Ma_put_130 hl (k := 0) rfl (by exact nI_1 _) (by decide) rfl (fun ls hl => ?_)
                    refine lv_goto (tgt := 112) hx hb d_Ma_put_133 (by decide) ?_
                    exact ih112 (i2 + 1) (by omega) (by omega) (by omega) _ _ _ hP hD hS (lv_sub hl [0, 1, 2, 3, 4, 5, 6, 7] rfl)
              exact L112 (8) (v + 1) (by omega) (by omega) (by omega) _ _ _ hP hD hS (lv_sub hl [0, 1, 2, 3, 4, 5, 6, 7] rfl)
          · refine lv_iload hx hb d_Ma_put_50 (lv_at hl 0 rfl) ?_
            refine z_le (tgt := 77) hx hb (by omega) d_Ma_put_52 (by decide) (fun c_52 => ?_) (fun c_52 => ?_)
            · have hie : i = sa (v + 1) := by omega
              rw [hie] at hP hD
              have hl : lv_has ls 8 [(5, .int (nI (sa 6))), (6, .int (nI (sa (v + 1)))), (0, .ref h), (1, .int (nI fr)), (2, .int (nI v)), (3, .int (nI to)), (4, .int (nI co))] := lv_sub hl [1, 2, 3, 4, 5, 6, 7] rfl
              refine lv_iload hx hb d_Ma_put_77 (lv_at hl 1 rfl) ?_
              refine z_lt (tgt := 107) hx hb (by omega) d_Ma_put_79 (by decide) ?_
              refine lv_iload hx hb d_Ma_put_82 (lv_at hl 1 rfl) ?_
              refine lv_bipush (v := (nI 30)) hx hb d_Ma_put_84 (by decide) ?_
              refine b_ge (tgt := 107) hx hb (by omega) (by decide) d_Ma_put_86 (by decide) (fun c_86 => ?_) (fun c_86 => ?_)
              · exact absurd c_86 (by omega)
              · refine lv_aload_n hx hb d_Ma_put_89 rfl (lv_at hl 2 rfl) ?_
                refine r_get C0 hK hP 0 rfl rfl i_Ma 8 (by decide) wt_239 (fun _ h => h) rfl d_Ma_put_90 ?_
                refine lv_iload hx hb d_Ma_put_93 (lv_at hl 1 rfl) ?_
                refine lv_iload_n hx hb d_Ma_put_95 rfl (lv_at hl 3 rfl) ?_
                refine lv_iload_n hx hb d_Ma_put_96 rfl (lv_at hl 5 rfl) ?_
                refine lv_iconst (v := (nI 3)) hx hb d_Ma_put_97 (by decide) ?_
                refine lv_ishl hx hb d_Ma_put_98 ?_
                refine t_eq (y := (nI (to * 2 ^ 3))) (m_shl _ (by decide)) ?_
                refine lv_ior hx hb d_Ma_put_99 ?_
                refine t_eq (y := (nI (fr ||| (to * 2 ^ 3)))) (m_or _ _) ?_
                refine lv_iload hx hb d_Ma_put_100 (lv_at hl 6 rfl) ?_
                refine lv_bipush (v := (nI 6)) hx hb d_Ma_put_102 (by decide) ?_
                refine lv_ishl hx hb d_Ma_put_104 ?_
                refine t_eq (y := (nI (co * 2 ^ 6))) (m_shl _ (by decide)) ?_
                refine lv_ior hx hb d_Ma_put_105 ?_
                refine t_eq (y := (nI ((fr ||| (to * 2 ^ 3)) ||| (co * 2 ^ 6)))) (m_or _ _) ?_
                refine r_astN C0 hK hP hD hS 1 rfl (by omega) (by decide) d_Ma_put_106 (fun H locs hP hD hS => ?_)
                have hP : va_P D cls [(h, .inr (4, [.int (nI kd), .int (nI n), .int (nI w), .int (nI ns), .int (nI hn), .int (nI hq), .int (nI en), .int (nI mo), .ref st, .ref sr])), (st, .inl (cI, 30, .inl (nA (va_up (shF sp (sa (v + 1)) (sa 6)) (sa (v + 1)) ((fr ||| (to * 2 ^ 3)) ||| (co * 2 ^ 6)))))), (sr, .inl (cI, 7, .inl (nA sa)))] H := hP
                have hD : va_D A [(h, .inr (4, [.int (nI kd), .int (nI n), .int (nI w), .int (nI ns), .int (nI hn), .int (nI hq), .int (nI en), .int (nI mo), .ref st, .ref sr])), (st, .inl (cI, 30, .inl (nA (va_up (shF sp (sa (v + 1)) (sa 6)) (sa (v + 1)) ((fr ||| (to * 2 ^ 3)) ||| (co * 2 ^ 6)))))), (sr, .inl (cI, 7, .inl (nA sa)))] := hD
                rw [show (va_up (shF sp (sa (v + 1)) (sa 6)) (sa (v + 1)) ((fr ||| (to * 2 ^ 3)) ||| (co * 2 ^ 6))) = insF sp (sa (v + 1)) (sa 6) ((fr ||| to * 2 ^ 3) ||| co * 2 ^ 6) from rfl] at hP hD
                refine lv_iload_n hx hb d_Ma_put_107 rfl (lv_at hl 4 rfl) ?_
                refine lv_iconst (v := (nI 1)) hx hb d_Ma_put_108 (by decide) ?_
                refine lv_iadd hx hb d_Ma_put_109 ?_
                refine t_eq (y := (nI (v + 1))) (nI_add _ _) ?_
                refine lv_istore (lv' := [(7, .int (nI (v + 1))), (5, .int (nI (sa 6))), (6, .int (nI (sa (v + 1)))), (0, .ref h), (1, .int (nI fr)), (2, .int (nI v)), (3, .int (nI to)), (4, .int (nI co))]) hx hb d_Ma_put_110 hl (by decide) rfl (fun ls hl => ?_)
                have hQe : sa = saI sa v (v + 1) := saI_0.symm
                have hP : va_P D cls [(h, .inr (4, [.int (nI kd), .int (nI n), .int (nI w), .int (nI ns), .int (nI hn), .int (nI hq), .int (nI en), .int (nI mo), .ref st, .ref sr])), (st, .inl (cI, 30, .inl (nA (insF sp (sa (v + 1)) (sa 6) ((fr ||| to * 2 ^ 3) ||| co * 2 ^ 6))))), (sr, .inl (cI, 7, .inl (nA (saI sa v (v + 1)))))] H := by rw [← hQe]; exact hP
                have hD : va_D A [(h, .inr (4, [.int (nI kd), .int (nI n), .int (nI w), .int (nI ns), .int (nI hn), .int (nI hq), .int (nI en), .int (nI mo), .ref st, .ref sr])), (st, .inl (cI, 30, .inl (nA (insF sp (sa (v + 1)) (sa 6) ((fr ||| to * 2 ^ 3) ||| co * 2 ^ 6))))), (sr, .inl (cI, 7, .inl (nA (saI sa v (v + 1)))))] := by rw [← hQe]; exact hD
                have L112 : ∀ (fuel112 : Nat) (i2 : Nat), (i2 ≤ 7) → (v < i2) → (7 < i2 + fuel112) → ∀ (H : Heap) (locs : List Loc) (ls : Array Slot), va_P D cls [(h, .inr (4, [.int (nI kd), .int (nI n), .int (nI w), .int (nI ns), .int (nI hn), .int (nI hq), .int (nI en), .int (nI mo), .ref st, .ref sr])), (st, .inl (cI, 30, .inl (nA (insF sp (sa (v + 1)) (sa 6) ((fr ||| to * 2 ^ 3) ||| co * 2 ^ 6))))), (sr, .inl (cI, 7, .inl (nA (saI sa v i2))))] H → va_D A [(h, .inr (4, [.int (nI kd), .int (nI n), .int (nI w), .int (nI ns), .int (nI hn), .int (nI hq), .int (nI en), .int (nI mo), .ref st, .ref sr])), (st, .inl (cI, 30, .inl (nA (insF sp (sa (v + 1)) (sa 6) ((fr ||| to * 2 ^ 3) ||| co * 2 ^ 6))))), (sr, .inl (cI, 7, .inl (nA (saI sa v i2))))] → va_S A s.heap H locs → lv_has ls 8 [(7, .int (nI i2)), (5, .int (nI (sa 6))), (6, .int (nI (sa (v + 1)))), (0, .ref h), (1, .int (nI fr)), (2, .int (nI v)), (3, .int (nI to)), (4, .int (nI co))] → W p l e { frames := 2, cells := 0, slots := 0, locals := 42 } s m ([.ref h, .int (nI fr), .int (nI v), .int (nI to), .int (nI co)] : List Value).toArray below meth c H locs 0 0 (MQ below (pstI D [(h, .inr (4, [.int (nI kd), .int (nI n), .int (nI w), .int (nI ns), .int (nI hn), .int (nI hq), .int (nI en), .int (nI mo), .ref st, .ref sr])), (st, .inl (cI, 30, .inl (nA sp))), (sr, .inl (cI, 7, .inl (nA sa)))] sz (fun (r : Int32) (u : (Nat → Nat) × (Nat → Nat)) => (sa 6 < 30 ∧ r = nI (sa 6 + 1) ∧ u = (insF sp (sa (v + 1)) (sa 6) ((fr ||| to * 2 ^ 3) ||| co * 2 ^ 6), saI sa v 7)) ∨ (30 ≤ sa 6 ∧ r = -3 ∧ u = (sp, sa))) (fun u : (Nat → Nat) × (Nat → Nat) => [(h, .inr (4, [.int (nI kd), .int (nI n), .int (nI w), .int (nI ns), .int (nI hn), .int (nI hq), .int (nI en), .int (nI mo), .ref st, .ref sr])), (st, .inl (cI, 30, .inl (nA u.1))), (sr, .inl (cI, 7, .inl (nA u.2)))])) ([.ref h, .int (nI fr), .int (nI v), .int (nI to), .int (nI co)] : List Value).toArray s 0 0 A) (F0 m 112 ls []) := by
                  intro fuel112
                  induction fuel112 with
                  | zero => intros; omega
                  | succ fuel112 ih112 =>
                    intro i2 hj hj2 hfu2 H locs ls hP hD hS hl
                    refine lv_iload hx hb d_Ma_put_112 (lv_at hl 0 rfl) ?_
                    refine lv_bipush (v := (nI 6)) hx hb d_Ma_put_114 (by decide) ?_
                    refine b_gt (tgt := 136) hx hb (by omega) (by decide) d_Ma_put_116 (by decide) (fun c_116 => ?_) (fun c_116 => ?_)
                    · obtain rfl : i2 = 7 := (by omega)
                      refine lv_aload_n hx hb d_Ma_put_136 rfl (lv_at hl 3 rfl) ?_
                      refine r_get C0 hK hP 0 rfl rfl i_Ma 9 (by decide) wt_240 (fun _ h => h) rfl d_Ma_put_137 ?_
                      refine lv_bipush (v := (nI 6)) hx hb d_Ma_put_140 (by decide) ?_
                      refine r_ald C0 hK hP 2 rfl (by omega) (by decide) d_Ma_put_142 ?_
                      refine t_eq (y := (nI ((saI sa v 7) 6))) rfl ?_
                      exact ret_i C0 hr hlk hAe hS (insF sp (sa (v + 1)) (sa 6) ((fr ||| to * 2 ^ 3) ||| co * 2 ^ 6), saI sa v 7) (Or.inl ⟨c_13, by rw [saI_6 hv], rfl⟩) hP hD rfl (Nat.le_of_ble_eq_true rfl) (Nat.le_of_ble_eq_true rfl) d_Ma_put_143
                    · refine lv_aload_n hx hb d_Ma_put_119 rfl (lv_at hl 3 rfl) ?_
                      refine r_get C0 hK hP 0 rfl rfl i_Ma 9 (by decide) wt_240 (fun _ h => h) rfl d_Ma_put_120 ?_
                      refine lv_iload hx hb d_Ma_put_123 (lv_at hl 0 rfl) ?_
                      refine lv_dup2_11 hx hb d_Ma_put_125 rfl rfl ?_
                      refine r_ald C0 hK hP 2 rfl (by omega) (by decide) d_Ma_put_126 ?_
                      refine t_eq (y := (nI ((saI sa v i2) i2))) rfl ?_
                      refine lv_iconst (v := (nI 1)) hx hb d_Ma_put_127 (by decide) ?_
                      refine lv_iadd hx hb d_Ma_put_128 ?_
                      refine t_eq (y := (nI (((saI sa v i2) i2) + 1))) (nI_add _ _) ?_
                      refine r_astN C0 hK hP hD hS 2 rfl (by omega) (by decide) d_Ma_put_129 (fun H locs hP hD hS => ?_)
                      have hP : va_P D cls [(h, .inr (4, [.int (nI kd), .int (nI n), .int (nI w), .int (nI ns), .int (nI hn), .int (nI hq), .int (nI en), .int (nI mo), .ref st, .ref sr])), (st, .inl (cI, 30, .inl (nA (insF sp (sa (v + 1)) (sa 6) ((fr ||| to * 2 ^ 3) ||| co * 2 ^ 6))))), (sr, .inl (cI, 7, .inl (nA (va_up (saI sa v i2) i2 (((saI sa v i2) i2) + 1)))))] H := hP
                      have hD : va_D A [(h, .inr (4, [.int (nI kd), .int (nI n), .int (nI w), .int (nI ns), .int (nI hn), .int (nI hq), .int (nI en), .int (nI mo), .ref st, .ref sr])), (st, .inl (cI, 30, .inl (nA (insF sp (sa (v + 1)) (sa 6) ((fr ||| to * 2 ^ 3) ||| co * 2 ^ 6))))), (sr, .inl (cI, 7, .inl (nA (va_up (saI sa v i2) i2 (((saI sa v i2) i2) + 1)))))] := hD
                      rw [show (va_up (saI sa v i2) i2 (((saI sa v i2) i2) + 1)) = saI sa v (i2 + 1) from saI_s hj2] at hP hD
                      refine lv_iinc (v := (nI (i2 + 1))) (lv' := [(7, .int (nI (i2 + 1))), (5, .int (nI (sa 6))), (6, .int (nI (sa (v + 1)))), (0, .ref h), (1, .int (nI fr)), (2, .int (nI v)), (3, .int (nI to)), (4, .int (nI co))]) hx hb d_Ma_put_130 hl (k := 0) rfl (by exact nI_1 _) (by decide) rfl (fun ls hl => ?_)
                      refine lv_goto (tgt := 112) hx hb d_Ma_put_133 (by decide) ?_
                      exact ih112 (i2 + 1) (by omega) (by omega) (by omega) _ _ _ hP hD hS (lv_sub hl [0, 1, 2, 3, 4, 5, 6, 7] rfl)
                exact L112 (8) (v + 1) (by omega) (by omega) (by omega) _ _ _ hP hD hS (lv_sub hl [0, 1, 2, 3, 4, 5, 6, 7] rfl)
            · refine lv_aload_n hx hb d_Ma_put_55 rfl (lv_at hl 3 rfl) ?_
              refine r_get C0 hK hP 0 rfl rfl i_Ma 8 (by decide) wt_239 (fun _ h => h) rfl d_Ma_put_56 ?_
              refine lv_iload hx hb d_Ma_put_59 (lv_at hl 0 rfl) ?_
              refine lv_aload_n hx hb d_Ma_put_61 rfl (lv_at hl 3 rfl) ?_
              refine r_get C0 hK hP 0 rfl rfl i_Ma 8 (by decide) wt_239 (fun _ h => h) rfl d_Ma_put_62 ?_
              refine lv_iload hx hb d_Ma_put_65 (lv_at hl 0 rfl) ?_
              refine lv_iconst (v := (nI 1)) hx hb d_Ma_put_67 (by decide) ?_
              refine lv_isub hx hb d_Ma_put_68 ?_
              refine t_eq (y := (nI (i - 1))) (pk_sub (by omega)) ?_
              refine r_ald C0 hK hP 1 rfl (by omega) (by decide) d_Ma_put_69 ?_
              refine t_eq (y := (nI ((shF sp i (sa 6)) (i - 1)))) rfl ?_
              refine r_astN C0 hK hP hD hS 1 rfl (by omega) (by decide) d_Ma_put_70 (fun H locs hP hD hS => ?_)
              have hP : va_P D cls [(h, .inr (4, [.int (nI kd), .int (nI n), .int (nI w), .int (nI ns), .int (nI hn), .int (nI hq), .int (nI en), .int (nI mo), .ref st, .ref sr])), (st, .inl (cI, 30, .inl (nA (va_up (shF sp i (sa 6)) i ((shF sp i (sa 6)) (i - 1)))))), (sr, .inl (cI, 7, .inl (nA sa)))] H := hP
              have hD : va_D A [(h, .inr (4, [.int (nI kd), .int (nI n), .int (nI w), .int (nI ns), .int (nI hn), .int (nI hq), .int (nI en), .int (nI mo), .ref st, .ref sr])), (st, .inl (cI, 30, .inl (nA (va_up (shF sp i (sa 6)) i ((shF sp i (sa 6)) (i - 1)))))), (sr, .inl (cI, 7, .inl (nA sa)))] := hD
              rw [show (va_up (shF sp i (sa 6)) i ((shF sp i (sa 6)) (i - 1))) = shF sp (i - 1) (sa 6) from shF_s (by omega) hi] at hP hD
              refine lv_iinc (v := (nI (i - 1))) (lv' := [(7, .int (nI (i - 1))), (5, .int (nI (sa 6))), (6, .int (nI (sa (v + 1)))), (0, .ref h), (1, .int (nI fr)), (2, .int (nI v)), (3, .int (nI to)), (4, .int (nI co))]) hx hb d_Ma_put_71 hl (k := 0) rfl (by exact sb_m1 (by omega)) (by decide) rfl (fun ls hl => ?_)
              refine lv_goto (tgt := 43) hx hb d_Ma_put_74 (by decide) ?_
              exact ih43 (i - 1) (by omega) (by omega) (by omega) _ _ _ hP hD hS (lv_sub hl [0, 1, 2, 3, 4, 5, 6, 7] rfl)
      exact L43 (31) (sa 6) (by omega) (by omega) (by omega) _ _ _ hP hD hS (lv_sub hl [0, 2, 1, 3, 4, 5, 6, 7] rfl)
    · exact absurd hv (by simp at c_23; omega)
  · refine lv_bipush (v := (-3)) hx hb d_Ma_put_16 (by decide) ?_
    exact ret_i C0 hr hlk hAe hS (sp, sa) (Or.inr ⟨c_13, rfl, rfl⟩) hP hD rfl (Nat.le_of_ble_eq_true rfl) (Nat.le_of_ble_eq_true rfl) d_Ma_put_18
