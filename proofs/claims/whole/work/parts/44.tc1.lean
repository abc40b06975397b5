set_option maxHeartbeats 4000000 in
set_option maxRecDepth 100000 in
theorem c_TC_isName (l : Launch) (D : va_G) (cI : ClassId) (sz : Nat) (h : Nat) (an : Nat) (am : Nat) (ak : Nat) (ap : Nat) (ac : Nat) (nm : Nat) (cs : Nat) (mk : Nat) (lr : Nat) (x : Int32) (hnm : nm ≤ 6) : MetI l y_TC_isName b_TC_isName 2 (some .boolean) { frames := 1, cells := 0, slots := 0, locals := 22 } D cI [] sz [(h, .inr (0, [.ref an, .ref am, .ref ak, .ref ap, .ref ac, .int (nI nm), .int (nI cs), .int (nI mk), .int (nI lr)]))] [.ref h, .int x] (fun (r : Int32) (u : Unit) => r = (bI ((ixN x nm).isSome))) (fun u : Unit => [(h, .inr (0, [.ref an, .ref am, .ref ak, .ref ap, .ref ac, .int (nI nm), .int (nI cs), .int (nI mk), .int (nI lr)]))]) := by
  refine enter (by decide) (Nat.le_of_ble_eq_true rfl) ?_
  intro p e s m below meth c A ls C0 hr hlk hnm hK hsz hA hAe hP hD hS hl
  have hx := C0.1
  have hb := C0.2.1
  have hl : lv_has ls 2 [(0, .ref h), (1, .int x)] := hl
  refine lv_iload_n hx hb d_TC_isName_0 rfl (lv_at hl 1 rfl) ?_
  refine lv_iconst (v := (nI 0)) hx hb d_TC_isName_1 (by decide) ?_
  refine lv_aload_n hx hb d_TC_isName_2 rfl (lv_at hl 0 rfl) ?_
  refine r_get C0 hK hP 0 rfl rfl i_TC 5 (by decide) wt_92 (fun _ h => h) rfl d_TC_isName_3 ?_
  refine lv_iconst (v := (nI 1)) hx hb d_TC_isName_6 (by decide) ?_
  refine lv_isub hx hb d_TC_isName_7 ?_
  refine call_i (rm := { frames := 0, cells := 0, slots := 0, locals := 0 }) hS hP hD hA (spl_mk (wc := []) (wr := [(h, .inr (0, [.ref an, .ref am, .ref ak, .ref ap, .ref ac, .int (nI nm), .int (nI cs), .int (nI mk), .int (nI lr)]))]) [] [0] rfl rfl (by decide)) (run_s (n := 3) (As := [.int x, .int (nI 0), .int (nI nm - nI 1)]) (rest := []) C0 (hK.sub [] rfl) (c_TC_isIn l D cI s.heap.size x (nI 0) (nI nm - nI 1)) wt_125 wt_1 wt_123 wt_124 (by decide +kernel) ⟨Nat.le_of_ble_eq_true rfl, Nat.le_of_ble_eq_true rfl⟩ rfl hl.1 rfl (Nat.le_of_ble_eq_true rfl) d_TC_isName_8 ⟨Nat.le_of_ble_eq_true rfl, Nat.le_of_ble_eq_true rfl⟩) (fun r_8 _u8 H locs hw_8 hP hD hS => ?_)
  have hP : va_P D cls [(h, .inr (0, [.ref an, .ref am, .ref ak, .ref ap, .ref ac, .int (nI nm), .int (nI cs), .int (nI mk), .int (nI lr)]))] H := hP
  have hD : va_D A [(h, .inr (0, [.ref an, .ref am, .ref ak, .ref ap, .ref ac, .int (nI nm), .int (nI cs), .int (nI mk), .int (nI lr)]))] := hD
  subst hw_8
  refine y_eq (tgt := 24) hx hb d_TC_isName_11 (by decide) (fun c_11 => ?_) (fun c_11 => ?_)
  · have hij := ix_f (by omega) c_11
    refine lv_iconst (v := (nI 0)) hx hb d_TC_isName_24 (by decide) ?_
    exact ret_i C0 hr hlk hAe hS () (by rw [hij]; rfl) hP hD rfl (Nat.le_of_ble_eq_true rfl) (Nat.le_of_ble_eq_true rfl) d_TC_isName_25
  · obtain ⟨j, hjj, hxj, hij⟩ := ix_t (by omega) c_11
    have hl : lv_has ls 2 [(0, .ref h), (1, .int (nI j))] := by rw [← hxj]; exact hl
    refine lv_iload_n hx hb d_TC_isName_14 rfl (lv_at hl 1 rfl) ?_
    refine lv_bipush (v := (nI 6)) hx hb d_TC_isName_15 (by decide) ?_
    refine b_ge (tgt := 24) hx hb (by omega) (by decide) d_TC_isName_17 (by decide) (fun c_17 => ?_) (fun c_17 => ?_)
    · exact absurd c_17 (by omega)
    · refine lv_iconst (v := (nI 1)) hx hb d_TC_isName_20 (by decide) ?_
      refine lv_goto (tgt := 25) hx hb d_TC_isName_21 (by decide) ?_
      exact ret_i C0 hr hlk hAe hS () (by rw [hij]; rfl) hP hD rfl (Nat.le_of_ble_eq_true rfl) (Nat.le_of_ble_eq_true rfl) d_TC_isName_25
theorem isSome_t {x : Int32} {m : Nat} (hm : m ≤ 1000000) (h : (ixN x m).isSome = true) : ∃ j, j < m ∧ x = nI j ∧ ixN x m = some j := by
  by_cases g : 0 ≤ x.toInt ∧ x.toInt < (m : Int)
  · exact ix_of (by omega) g
  · rw [ix_none g] at h; cases h
theorem isSome_f {x : Int32} {m : Nat} (_hm : m ≤ 1000000) (h : (ixN x m).isSome = false) : ixN x m = none := by
  cases hx : ixN x m with
  | none => rfl
  | some j => rw [hx] at h; cases h
theorem ixN_lt {j m : Nat} (hj : j < 2147483648) (hm : m < 2147483648) : (ixN (nI j) m).isSome = decide (j < m) := by
  by_cases h : j < m
  · rw [ix_nI hm h, decide_eq_true h]; rfl
  · rw [ix_none (by rw [nI_toInt hj]; omega), decide_eq_false h]; rfl
theorem ush_i {x : Int32} {k : Nat} (hk : k < 32) : (x.toUInt32 >>> ((nI k).toUInt32 &&& Int32.toUInt32 31)).toInt32 = nI (x.toBitVec.toNat / 2 ^ k) := by
  apply Int32.toBitVec_inj.mp
  apply BitVec.eq_of_toNat_eq
  rw [pk_ushr x (nI k) k (q_u k hk), pk_tn (Nat.lt_of_le_of_lt (Nat.div_le_self _ _) x.toBitVec.isLt)]
theorem ush_0 {x : Int32} {m : Nat} (hm : m ≤ 6) (h : nI (x.toBitVec.toNat / 2 ^ (3 * m)) = 0) : ∃ w, w < 2 ^ (3 * m) ∧ x = nI w ∧ ixN x (2 ^ (3 * m)) = some w := by
  have hp := p18 hm
  have hlt := x.toBitVec.isLt
  have h1 : x.toBitVec.toNat / 2 ^ (3 * m) = 0 := by
    have hq : (x.toBitVec.toNat / 2 ^ (3 * m)) < 2 ^ 32 := Nat.lt_of_le_of_lt (Nat.div_le_self _ _) hlt
    have q := congrArg (fun z : Int32 => z.toBitVec.toNat) h
    have q : (nI (x.toBitVec.toNat / 2 ^ (3 * m))).toBitVec.toNat = 0 := q
    rw [pk_tn hq] at q
    exact q
  have h2 : x.toBitVec.toNat < 2 ^ (3 * m) := by
    rcases Nat.lt_or_ge x.toBitVec.toNat (2 ^ (3 * m)) with g | g
    · exact g
    · have := Nat.div_pos g (Nat.two_pow_pos _)
      omega
  have h3 : x = nI x.toBitVec.toNat := by
    apply Int32.toBitVec_inj.mp
    apply BitVec.eq_of_toNat_eq
    rw [pk_tn hlt]
  exact ⟨x.toBitVec.toNat, h2, h3, by rw [h3, pk_tn hlt]; exact ix_nI (by omega) h2⟩
theorem ush_n {x : Int32} {m : Nat} (hm : m ≤ 6) (h : ¬ nI (x.toBitVec.toNat / 2 ^ (3 * m)) = 0) : ixN x (2 ^ (3 * m)) = none := by
  have hp := p18 hm
  refine ix_none (fun q => h ?_)
  obtain ⟨w, h1, h2, -⟩ := ix_of (x := x) (m := 2 ^ (3 * m)) (by omega) q
  rw [h2, pk_tn (by omega), Nat.div_eq_of_lt h1]
  rfl
set_option maxHeartbeats 4000000 in
set_option maxRecDepth 100000 in
theorem c_TC_isWord (l : Launch) (D : va_G) (cI : ClassId) (sz : Nat) (q : Nat) (x : Int32) (sf : Bool) (hq : q ≤ 6) : MetI l y_TC_isWord b_TC_isWord 5 (some .boolean) { frames := 2, cells := 0, slots := 0, locals := 42 } D cI [] sz [] [.int (nI q), .int x, .int (bI sf)] (fun (r : Int32) (u : Unit) => r = (bI (wordB x q sf))) (fun u : Unit => []) := by
  refine enter (by decide) (Nat.le_of_ble_eq_true rfl) ?_
  intro p e s m below meth c A ls C0 hr hlk hnm hK hsz hA hAe hP hD hS hl
  have hx := C0.1
  have hb := C0.2.1
  have hl : lv_has ls 5 [(0, .int (nI q)), (1, .int x), (2, .int (bI sf))] := hl
  refine lv_iload_n hx hb d_TC_isWord_0 rfl (lv_at hl 1 rfl) ?_
  refine lv_iconst (v := (nI 3)) hx hb d_TC_isWord_1 (by decide) ?_
  refine lv_iload_n hx hb d_TC_isWord_2 rfl (lv_at hl 0 rfl) ?_
  refine lv_imul hx hb d_TC_isWord_3 ?_
  refine t_eq (y := (nI (3 * q))) (pk_mul _ _) ?_
  refine lv_iushr hx hb d_TC_isWord_4 rfl ?_
  refine t_eq (y := nI (x.toBitVec.toNat / 2 ^ (3 * q))) (ush_i (by omega)) ?_
  refine lv_if_eq (tgt := 10) hx hb d_TC_isWord_5 (by decide) (fun c_5 => ?_) (fun c_5 => ?_)
  · obtain ⟨w, hwl, hxw, hxs⟩ := ush_0 hq c_5
    have hl : lv_has ls 5 [(0, .int (nI q)), (1, .int (nI w)), (2, .int (bI sf))] := by rw [← hxw]; exact hl
    have hp18 := p18 hq
    refine lv_iconst (v := (nI 0)) hx hb d_TC_isWord_10 (by decide) ?_
    refine lv_istore_n (lv' := [(3, .int (nI 0)), (0, .int (nI q)), (1, .int (nI w)), (2, .int (bI sf))]) hx hb d_TC_isWord_11 rfl hl (by decide) rfl (fun ls hl => ?_)
    have L12 : ∀ (fuel12 : Nat) (i : Nat), (i ≤ q) → (q < i + fuel12) → (allB (fun k => okD sf (dgt w k)) i = true) → ∀ (H : Heap) (locs : List Loc) (ls : Array Slot), va_P D cls [] H → va_D A [] → va_S A s.heap H locs → lv_has ls 5 [(3, .int (nI i)), (0, .int (nI q)), (1, .int (nI w)), (2, .int (bI sf))] → W p l e { frames := 2, cells := 0, slots := 0, locals := 42 } s m ([.int (nI q), .int x, .int (bI sf)] : List Value).toArray below meth c H locs 0 0 (MQ below (pstI D [] sz (fun (r : Int32) (u : Unit) => r = (bI (wordB x q sf))) (fun u : Unit => [])) ([.int (nI q), .int x, .int (bI sf)] : List Value).toArray s 0 0 A) (F0 m 12 ls []) := by
      intro fuel12
      induction fuel12 with
      | zero => intros; omega
      | succ fuel12 ih12 =>
        intro i hi hfu hal H locs ls hP hD hS hl
        refine lv_iload_n hx hb d_TC_isWord_12 rfl (lv_at hl 0 rfl) ?_
        refine lv_iload_n hx hb d_TC_isWord_13 rfl (lv_at hl 1 rfl) ?_
        refine b_ge (tgt := 51) hx hb (by omega) (by omega) d_TC_isWord_14 (by decide) (fun c_14 => ?_) (fun c_14 => ?_)
        · refine lv_iconst (v := (nI 1)) hx hb d_TC_isWord_51 (by decide) ?_
          exact ret_i C0 hr hlk hAe hS () (by rw [wordB_s hxs, show q = i by omega]; exact bI_of_t hal) hP hD rfl (Nat.le_of_ble_eq_true rfl) (Nat.le_of_ble_eq_true rfl) d_TC_isWord_52
        · refine lv_iload_n hx hb d_TC_isWord_17 rfl (lv_at hl 2 rfl) ?_
          refine lv_iload_n hx hb d_TC_isWord_18 rfl (lv_at hl 0 rfl) ?_
          refine call_i (rm := { frames := 0, cells := 0, slots := 0, locals := 0 }) hS hP hD hA (spl_mk (wc := []) (wr := []) [] [] rfl rfl (by decide)) (run_s (n := 2) (As := [.int (nI w), .int (nI i)]) (rest := []) C0 (hK.sub [] rfl) (c_TC_digit l D cI H.size w i (by omega) (by omega)) wt_140 wt_1 wt_138 wt_139 (by decide +kernel) ⟨Nat.le_of_ble_eq_true rfl, Nat.le_of_ble_eq_true rfl⟩ rfl hl.1 rfl (Nat.le_of_ble_eq_true rfl) d_TC_isWord_19 ⟨Nat.le_of_ble_eq_true rfl, Nat.le_of_ble_eq_true rfl⟩) (fun r_19 _u19 H locs hw_19 hP hD hS => ?_)
          have hP : va_P D cls [] H := hP
          have hD : va_D A [] := hD
          subst hw_19
          have hd_19 := dgt_lt w i
          refine lv_istore (lv' := [(4, .int (nI (dgt w i))), (3, .int (nI i)), (0, .int (nI q)), (1, .int (nI w)), (2, .int (bI sf))]) hx hb d_TC_isWord_22 hl (by decide) rfl (fun ls hl => ?_)
          refine lv_iload hx hb d_TC_isWord_24 (lv_at hl 0 rfl) ?_
          refine call_i (rm := { frames := 1, cells := 0, slots := 0, locals := 22 }) hS hP hD hA (spl_mk (wc := []) (wr := []) [] [] rfl rfl (by decide)) (run_s (n := 1) (As := [.int (nI (dgt w i))]) (rest := []) C0 (hK.sub [] rfl) (c_TC_isValue l D cI H.size (nI (dgt w i))) wt_221 wt_1 wt_219 wt_220 (by decide +kernel) ⟨Nat.le_of_ble_eq_true rfl, Nat.le_of_ble_eq_true rfl⟩ rfl hl.1 rfl (Nat.le_of_ble_eq_true rfl) d_TC_isWord_26 ⟨Nat.le_of_ble_eq_true rfl, Nat.le_of_ble_eq_true rfl⟩) (fun r_26 _u26 H locs hw_26 hP hD hS => ?_)
          have hP : va_P D cls [] H := hP
          have hD : va_D A [] := hD
          subst hw_26
          refine t_eq (y := (bI (decide (dgt w i < 6)))) (by rw [nat_in (by omega) (by decide)]; congr 1; exact decide_eq_decide.mpr (by omega)) ?_
          refine y_ne (tgt := 45) hx hb d_TC_isWord_29 (by decide) (fun c_29 => ?_) (fun c_29 => ?_)
          · have c_29 := of_decide_eq_true c_29
            refine lv_iinc (v := (nI (i + 1))) (lv' := [(3, .int (nI (i + 1))), (4, .int (nI (dgt w i))), (0, .int (nI q)), (1, .int (nI w)), (2, .int (bI sf))]) hx hb d_TC_isWord_45 hl (k := 1) rfl (by exact nI_1 _) (by decide) rfl (fun ls hl => ?_)
            refine lv_goto (tgt := 12) hx hb d_TC_isWord_48 (by decide) ?_
            exact ih12 (i + 1) (by omega) (by omega) (by show (_ && okD sf (dgt w i)) = true; rw [hal, Bool.true_and]; unfold okD; first | (simp [c_29]; done) | (simp [c_33, c_40]; done)) _ _ _ hP hD hS (lv_sub hl [0, 2, 3, 4] rfl)
          · have c_29 := of_decide_eq_false c_29
            refine lv_iload_n hx hb d_TC_isWord_32 rfl (lv_at hl 4 rfl) ?_
            refine y_eq (tgt := 43) hx hb d_TC_isWord_33 (by decide) (fun c_33 => ?_) (fun c_33 => ?_)
            · refine lv_iconst (v := (nI 0)) hx hb d_TC_isWord_43 (by decide) ?_
              exact ret_i C0 hr hlk hAe hS () (by rw [wordB_s hxs]; refine bI_of_f (allB_f (i := i) (by omega) ?_); unfold okD; first | (simp [c_29, c_40]; done) | (simp [c_29, c_33]; done)) hP hD rfl (Nat.le_of_ble_eq_true rfl) (Nat.le_of_ble_eq_true rfl) d_TC_isWord_44
            · refine lv_iload hx hb d_TC_isWord_36 (lv_at hl 0 rfl) ?_
              refine lv_bipush (v := (nI 7)) hx hb d_TC_isWord_38 (by decide) ?_
              refine b_eq (tgt := 45) hx hb (by omega) (by decide) d_TC_isWord_40 (by decide) (fun c_40 => ?_) (fun c_40 => ?_)
              · refine lv_iinc (v := (nI (i + 1))) (lv' := [(3, .int (nI (i + 1))), (4, .int (nI (dgt w i))), (0, .int (nI q)), (1, .int (nI w)), (2, .int (bI sf))]) hx hb d_TC_isWord_45 hl (k := 1) rfl (by exact nI_1 _) (by decide) rfl (fun ls hl => ?_)
                refine lv_goto (tgt := 12) hx hb d_TC_isWord_48 (by decide) ?_
                exact ih12 (i + 1) (by omega) (by omega) (by show (_ && okD sf (dgt w i)) = true; rw [hal, Bool.true_and]; unfold okD; first | (simp [c_29]; done) | (simp [c_33, c_40]; done)) _ _ _ hP hD hS (lv_sub hl [0, 2, 3, 4] rfl)
              · refine lv_iconst (v := (nI 0)) hx hb d_TC_isWord_43 (by decide) ?_
                exact ret_i C0 hr hlk hAe hS () (by rw [wordB_s hxs]; refine bI_of_f (allB_f (i := i) (by omega) ?_); unfold okD; first | (simp [c_29, c_40]; done) | (simp [c_29, c_33]; done)) hP hD rfl (Nat.le_of_ble_eq_true rfl) (Nat.le_of_ble_eq_true rfl) d_TC_isWord_44
    exact L12 (q + 1) 0 (by omega) (by omega) rfl _ _ _ hP hD hS (lv_sub hl [0, 1, 2, 3] rfl)
  · have hxn := ush_n hq c_5
    refine lv_iconst (v := (nI 0)) hx hb d_TC_isWord_8 (by decide) ?_
    exact ret_i C0 hr hlk hAe hS () (by rw [wordB_n hxn]; rfl) hP hD rfl (Nat.le_of_ble_eq_true rfl) (Nat.le_of_ble_eq_true rfl) d_TC_isWord_9
set_option maxHeartbeats 4000000 in
set_option maxRecDepth 100000 in
theorem c_TC_isRow (l : Launch) (D : va_G) (cI : ClassId) (sz : Nat) (h : Nat) (an : Nat) (am : Nat) (ak : Nat) (ap : Nat) (ac : Nat) (nm : Nat) (cs : Nat) (mk : Nat) (lr : Nat) (x : Int32) (y : Int32) (hnm : nm ≤ 6) : MetI l y_TC_isRow b_TC_isRow 6 (some .boolean) { frames := 2, cells := 0, slots := 0, locals := 43 } D cI [] sz [(h, .inr (0, [.ref an, .ref am, .ref ak, .ref ap, .ref ac, .int (nI nm), .int (nI cs), .int (nI mk), .int (nI lr)]))] [.ref h, .int x, .int y] (fun (r : Int32) (u : Unit) => r = (bI (rowB nm x y))) (fun u : Unit => [(h, .inr (0, [.ref an, .ref am, .ref ak, .ref ap, .ref ac, .int (nI nm), .int (nI cs), .int (nI mk), .int (nI lr)]))]) := by
  refine enter (by decide) (Nat.le_of_ble_eq_true rfl) ?_
  intro p e s m below meth c A ls C0 hr hlk hnm hK hsz hA hAe hP hD hS hl
  have hx := C0.1
  have hb := C0.2.1
  have hl : lv_has ls 6 [(0, .ref h), (1, .int x), (2, .int y)] := hl
  refine lv_iload_n hx hb d_TC_isRow_0 rfl (lv_at hl 1 rfl) ?_
  refine lv_iconst (v := (nI 1)) hx hb d_TC_isRow_1 (by decide) ?_
  refine lv_bipush (v := (nI 6)) hx hb d_TC_isRow_2 (by decide) ?_
  refine call_i (rm := { frames := 0, cells := 0, slots := 0, locals := 0 }) hS hP hD hA (spl_mk (wc := []) (wr := [(h, .inr (0, [.ref an, .ref am, .ref ak, .ref ap, .ref ac, .int (nI nm), .int (nI cs), .int (nI mk), .int (nI lr)]))]) [] [0] rfl rfl (by decide)) (run_s (n := 3) (As := [.int x, .int (nI 1), .int (nI 6)]) (rest := []) C0 (hK.sub [] rfl) (c_TC_isIn l D cI s.heap.size x (nI 1) (nI 6)) wt_125 wt_1 wt_123 wt_124 (by decide +kernel) ⟨Nat.le_of_ble_eq_true rfl, Nat.le_of_ble_eq_true rfl⟩ rfl hl.1 rfl (Nat.le_of_ble_eq_true rfl) d_TC_isRow_4 ⟨Nat.le_of_ble_eq_true rfl, Nat.le_of_ble_eq_true rfl⟩) (fun r_4 _u4 H locs hw_4 hP hD hS => ?_)
  have hP : va_P D cls [(h, .inr (0, [.ref an, .ref am, .ref ak, .ref ap, .ref ac, .int (nI nm), .int (nI cs), .int (nI mk), .int (nI lr)]))] H := hP
  have hD : va_D A [(h, .inr (0, [.ref an, .ref am, .ref ak, .ref ap, .ref ac, .int (nI nm), .int (nI cs), .int (nI mk), .int (nI lr)]))] := hD
  subst hw_4
  refine y_eq (tgt := 18) hx hb d_TC_isRow_7 (by decide) (fun c_7 => ?_) (fun c_7 => ?_)
  · have hiq := i1_f (by decide) c_7
    refine lv_iconst (v := (nI 0)) hx hb d_TC_isRow_18 (by decide) ?_
    exact ret_i C0 hr hlk hAe hS () (by first | (rw [rowB_1 hiq hjq.1 hyn]; rfl) | (rw [rowB_0 hiq]; rfl)) hP hD rfl (Nat.le_of_ble_eq_true rfl) (Nat.le_of_ble_eq_true rfl) d_TC_isRow_19
  · obtain ⟨q, hjq, hxq, hiq⟩ := i1_t (by decide) c_7
    have hl : lv_has ls 6 [(0, .ref h), (1, .int (nI q)), (2, .int y)] := by rw [← hxq]; exact hl
    refine lv_iload_n hx hb d_TC_isRow_10 rfl (lv_at hl 2 rfl) ?_
    refine lv_iconst (v := (nI 3)) hx hb d_TC_isRow_11 (by decide) ?_
    refine lv_iload_n hx hb d_TC_isRow_12 rfl (lv_at hl 1 rfl) ?_
    refine lv_imul hx hb d_TC_isRow_13 ?_
    refine t_eq (y := (nI (3 * q))) (pk_mul _ _) ?_
    refine lv_iushr hx hb d_TC_isRow_14 rfl ?_
    refine t_eq (y := nI (y.toBitVec.toNat / 2 ^ (3 * q))) (ush_i (by omega)) ?_
    refine lv_if_eq (tgt := 20) hx hb d_TC_isRow_15 (by decide) (fun c_15 => ?_) (fun c_15 => ?_)
    · obtain ⟨w, hwl, hyw, hys⟩ := ush_0 (by omega) c_15
      have hl : lv_has ls 6 [(0, .ref h), (1, .int (nI q)), (2, .int (nI w))] := by rw [← hyw]; exact hl
      have hp18 := p18 (m := q) (by omega)
      refine lv_iconst (v := (nI 0)) hx hb d_TC_isRow_20 (by decide) ?_
      refine lv_istore_n (lv' := [(3, .int (nI 0)), (0, .ref h), (1, .int (nI q)), (2, .int (nI w))]) hx hb d_TC_isRow_21 rfl hl (by decide) rfl (fun ls hl => ?_)
      refine lv_iconst (v := (nI 0)) hx hb d_TC_isRow_22 (by decide) ?_
      refine lv_istore (lv' := [(4, .int (nI 0)), (3, .int (nI 0)), (0, .ref h), (1, .int (nI q)), (2, .int (nI w))]) hx hb d_TC_isRow_23 hl (by decide) rfl (fun ls hl => ?_)
      have hl : lv_has ls 6 [(4, .int (nI 0)), (3, .int (nI (nsF w 0))), (0, .ref h), (1, .int (nI q)), (2, .int (nI w))] := hl
      have L25 : ∀ (fuel25 : Nat) (i : Nat), (i ≤ q) → (q < i + fuel25) → (allB (rowN nm w) i = true) → ∀ (H : Heap) (locs : List Loc) (ls : Array Slot), va_P D cls [(h, .inr (0, [.ref an, .ref am, .ref ak, .ref ap, .ref ac, .int (nI nm), .int (nI cs), .int (nI mk), .int (nI lr)]))] H → va_D A [(h, .inr (0, [.ref an, .ref am, .ref ak, .ref ap, .ref ac, .int (nI nm), .int (nI cs), .int (nI mk), .int (nI lr)]))] → va_S A s.heap H locs → lv_has ls 6 [(4, .int (nI i)), (3, .int (nI (nsF w i))), (0, .ref h), (1, .int (nI q)), (2, .int (nI w))] → W p l e { frames := 2, cells := 0, slots := 0, locals := 43 } s m ([.ref h, .int x, .int y] : List Value).toArray below meth c H locs 0 0 (MQ below (pstI D [(h, .inr (0, [.ref an, .ref am, .ref ak, .ref ap, .ref ac, .int (nI nm), .int (nI cs), .int (nI mk), .int (nI lr)]))] sz (fun (r : Int32) (u : Unit) => r = (bI (rowB nm x y))) (fun u : Unit => [(h, .inr (0, [.ref an, .ref am, .ref ak, .ref ap, .ref ac, .int (nI nm), .int (nI cs), .int (nI mk), .int (nI lr)]))])) ([.ref h, .int x, .int y] : List Value).toArray s 0 0 A) (F0 m 25 ls []) := by
        intro fuel25
        induction fuel25 with
        | zero => intros; omega
        | succ fuel25 ih25 =>
          intro i hi hfu hal H locs ls hP hD hS hl
          have hns := nsF_lt w i
          refine lv_iload hx hb d_TC_isRow_25 (lv_at hl 0 rfl) ?_
          refine lv_iload_n hx hb d_TC_isRow_27 rfl (lv_at hl 3 rfl) ?_
          refine b_ge (tgt := 72) hx hb (by omega) (by omega) d_TC_isRow_28 (by decide) (fun c_28 => ?_) (fun c_28 => ?_)
          · refine lv_iconst (v := (nI 1)) hx hb d_TC_isRow_72 (by decide) ?_
            exact ret_i C0 hr hlk hAe hS () (by rw [rowB_2 hiq hjq.1 hys, show q = i by omega]; exact bI_of_t hal) hP hD rfl (Nat.le_of_ble_eq_true rfl) (Nat.le_of_ble_eq_true rfl) d_TC_isRow_73
          · refine lv_iload_n hx hb d_TC_isRow_31 rfl (lv_at hl 4 rfl) ?_
            refine lv_iload hx hb d_TC_isRow_32 (lv_at hl 0 rfl) ?_
            refine call_i (rm := { frames := 0, cells := 0, slots := 0, locals := 0 }) hS hP hD hA (spl_mk (wc := []) (wr := [(h, .inr (0, [.ref an, .ref am, .ref ak, .ref ap, .ref ac, .int (nI nm), .int (nI cs), .int (nI mk), .int (nI lr)]))]) [] [0] rfl rfl (by decide)) (run_s (n := 2) (As := [.int (nI w), .int (nI i)]) (rest := []) C0 (hK.sub [] rfl) (c_TC_digit l D cI H.size w i (by omega) (by omega)) wt_140 wt_1 wt_138 wt_139 (by decide +kernel) ⟨Nat.le_of_ble_eq_true rfl, Nat.le_of_ble_eq_true rfl⟩ rfl hl.1 rfl (Nat.le_of_ble_eq_true rfl) d_TC_isRow_34 ⟨Nat.le_of_ble_eq_true rfl, Nat.le_of_ble_eq_true rfl⟩) (fun r_34 _u34 H locs hw_34 hP hD hS => ?_)
            have hP : va_P D cls [(h, .inr (0, [.ref an, .ref am, .ref ak, .ref ap, .ref ac, .int (nI nm), .int (nI cs), .int (nI mk), .int (nI lr)]))] H := hP
            have hD : va_D A [(h, .inr (0, [.ref an, .ref am, .ref ak, .ref ap, .ref ac, .int (nI nm), .int (nI cs), .int (nI mk), .int (nI lr)]))] := hD
            subst hw_34
            have hd_34 := dgt_lt w i
            refine lv_istore (lv' := [(5, .int (nI (dgt w i))), (4, .int (nI i)), (3, .int (nI (nsF w i))), (0, .ref h), (1, .int (nI q)), (2, .int (nI w))]) hx hb d_TC_isRow_37 hl (by decide) rfl (fun ls hl => ?_)
            refine lv_aload_n hx hb d_TC_isRow_39 rfl (lv_at hl 3 rfl) ?_
            refine lv_iload hx hb d_TC_isRow_40 (lv_at hl 0 rfl) ?_
            refine call_i (rm := { frames := 1, cells := 0, slots := 0, locals := 22 }) hS hP hD hA (spl_mk (wc := [(h, .inr (0, [.ref an, .ref am, .ref ak, .ref ap, .ref ac, .int (nI nm), .int (nI cs), .int (nI mk), .int (nI lr)]))]) (wr := []) [0] [] rfl rfl (by decide)) (run_v (n := 1) (As := [.int (nI (dgt w i))]) (rest := []) (q0 := 0) (ci := 0) C0 (hK.sub [] rfl) (c_TC_isName l D cI H.size h an am ak ap ac nm cs mk lr (nI (dgt w i)) (by omega)) rfl rfl wt_144 wt_1 wt_141 wt_143 wp_1 (by decide +kernel) ⟨Nat.le_of_ble_eq_true rfl, Nat.le_of_ble_eq_true rfl⟩ rfl hl.1 rfl (Nat.le_of_ble_eq_true rfl) d_TC_isRow_42 ⟨Nat.le_of_ble_eq_true rfl, Nat.le_of_ble_eq_true rfl⟩) (fun r_42 _u42 H locs hw_42 hP hD hS => ?_)
            have hP : va_P D cls [(h, .inr (0, [.ref an, .ref am, .ref ak, .ref ap, .ref ac, .int (nI nm), .int (nI cs), .int (nI mk), .int (nI lr)]))] H := hP
            have hD : va_D A [(h, .inr (0, [.ref an, .ref am, .ref ak, .ref ap, .ref ac, .int (nI nm), .int (nI cs), .int (nI mk), .int (nI lr)]))] := hD
            subst hw_42
            refine t_eq (y := (bI (decide (dgt w i < nm)))) (by rw [ixN_lt (by omega) (by omega)]) ?_
            refine y_eq (tgt := 57) hx hb d_TC_isRow_45 (by decide) (fun c_45 => ?_) (fun c_45 => ?_)
            · have c_45 := of_decide_eq_false c_45
              refine lv_iconst (v := (nI 0)) hx hb d_TC_isRow_57 (by decide) ?_
              exact ret_i C0 hr hlk hAe hS () (by rw [rowB_2 hiq hjq.1 hys]; refine bI_of_f (allB_f (i := i) (by omega) ?_); unfold rowN; first | (rw [c_54, Bool.not_true, Bool.and_false]; done) | (rw [decide_eq_false c_45]; rfl)) hP hD rfl (Nat.le_of_ble_eq_true rfl) (Nat.le_of_ble_eq_true rfl) d_TC_isRow_58
            · have c_45 := of_decide_eq_true c_45
              refine lv_iload_n hx hb d_TC_isRow_48 rfl (lv_at hl 2 rfl) ?_
              refine lv_iload hx hb d_TC_isRow_49 (lv_at hl 0 rfl) ?_
              refine call_i (rm := { frames := 0, cells := 0, slots := 0, locals := 0 }) hS hP hD hA (spl_mk (wc := []) (wr := [(h, .inr (0, [.ref an, .ref am, .ref ak, .ref ap, .ref ac, .int (nI nm), .int (nI cs), .int (nI mk), .int (nI lr)]))]) [] [0] rfl rfl (by decide)) (run_s (n := 2) (As := [.int (nI (nsF w i)), .int (nI (dgt w i))]) (rest := []) C0 (hK.sub [] rfl) (c_TC_has l D cI H.size (nsF w i) (dgt w i) (by omega) (by omega)) wt_147 wt_1 wt_145 wt_146 (by decide +kernel) ⟨Nat.le_of_ble_eq_true rfl, Nat.le_of_ble_eq_true rfl⟩ rfl hl.1 rfl (Nat.le_of_ble_eq_true rfl) d_TC_isRow_51 ⟨Nat.le_of_ble_eq_true rfl, Nat.le_of_ble_eq_true rfl⟩) (fun r_51 _u51 H locs hw_51 hP hD hS => ?_)
              have hP : va_P D cls [(h, .inr (0, [.ref an, .ref am, .ref ak, .ref ap, .ref ac, .int (nI nm), .int (nI cs), .int (nI mk), .int (nI lr)]))] H := hP
              have hD : va_D A [(h, .inr (0, [.ref an, .ref am, .ref ak, .ref ap, .ref ac, .int (nI nm), .int (nI cs), .int (nI mk), .int (nI lr)]))] := hD
              subst hw_51
              refine y_eq (tgt := 59) hx hb d_TC_isRow_54 (by decide) (fun c_54 => ?_) (fun c_54 => ?_)
              · refine lv_iload_n hx hb d_TC_isRow_59 rfl (lv_at hl 2 rfl) ?_
                refine lv_iconst (v := (nI 1)) hx hb d_TC_isRow_60 (by decide) ?_
                refine lv_iload hx hb d_TC_isRow_61 (lv_at hl 0 rfl) ?_
                refine lv_ishl hx hb d_TC_isRow_63 ?_
                refine t_eq (y := (nI (1 * 2 ^ (dgt w i)))) (m_shl _ (by omega)) ?_
                refine lv_ior hx hb d_TC_isRow_64 ?_
                refine t_eq (y := (nI ((nsF w i) ||| (1 * 2 ^ (dgt w i))))) (m_or _ _) ?_
                refine t_eq (y := nI (nsF w (i + 1))) (by rw [Nat.one_mul]; rfl) ?_
                refine lv_istore_n (lv' := [(3, .int (nI (nsF w (i + 1)))), (5, .int (nI (dgt w i))), (4, .int (nI i)), (0, .ref h), (1, .int (nI q)), (2, .int (nI w))]) hx hb d_TC_isRow_65 rfl hl (by decide) rfl (fun ls hl => ?_)
                refine lv_iinc (v := (nI (i + 1))) (lv' := [(4, .int (nI (i + 1))), (3, .int (nI (nsF w (i + 1)))), (5, .int (nI (dgt w i))), (0, .ref h), (1, .int (nI q)), (2, .int (nI w))]) hx hb d_TC_isRow_66 hl (k := 2) rfl (by exact nI_1 _) (by decide) rfl (fun ls hl => ?_)
                refine lv_goto (tgt := 25) hx hb d_TC_isRow_69 (by decide) ?_
                exact ih25 (i + 1) (by omega) (by omega) (by show (allB (rowN nm w) i && rowN nm w i) = true; rw [hal]; unfold rowN; rw [decide_eq_true c_45, c_54]; rfl) _ _ _ hP hD hS (lv_sub hl [0, 1, 3, 4, 5] rfl)
              · refine lv_iconst (v := (nI 0)) hx hb d_TC_isRow_57 (by decide) ?_
                exact ret_i C0 hr hlk hAe hS () (by rw [rowB_2 hiq hjq.1 hys]; refine bI_of_f (allB_f (i := i) (by omega) ?_); unfold rowN; first | (rw [c_54, Bool.not_true, Bool.and_false]; done) | (rw [decide_eq_false c_45]; rfl)) hP hD rfl (Nat.le_of_ble_eq_true rfl) (Nat.le_of_ble_eq_true rfl) d_TC_isRow_58
      exact L25 (q + 1) 0 (by omega) (by omega) rfl _ _ _ hP hD hS (lv_sub hl [0, 1, 2, 3, 4] rfl)
    · have hyn := ush_n (m := q) (by omega) c_15
      refine lv_iconst (v := (nI 0)) hx hb d_TC_isRow_18 (by decide) ?_
      exact ret_i C0 hr hlk hAe hS () (by first | (rw [rowB_1 hiq hjq.1 hyn]; rfl) | (rw [rowB_0 hiq]; rfl)) hP hD rfl (Nat.le_of_ble_eq_true rfl) (Nat.le_of_ble_eq_true rfl) d_TC_isRow_19
set_option maxHeartbeats 4000000 in
set_option maxRecDepth 100000 in
theorem c_TC_isState (l : Launch) (D : va_G) (cI : ClassId) (sz : Nat) (x : Int32)  : MetI l y_TC_isState b_TC_isState 1 (some .boolean) { frames := 1, cells := 0, slots := 0, locals := 22 } D cI [] sz [] [.int x] (fun (r : Int32) (u : Unit) => r = (bI (decide (nI 0 ≤ x) && decide (x ≤ nI 5)))) (fun u : Unit => []) := by
  refine enter (by decide) (Nat.le_of_ble_eq_true rfl) ?_
  intro p e s m below meth c A ls C0 hr hlk hnm hK hsz hA hAe hP hD hS hl
  have hx := C0.1
  have hb := C0.2.1
  have hl : lv_has ls 1 [(0, .int x)] := hl
  refine lv_iload_n hx hb d_TC_isState_0 rfl (lv_at hl 0 rfl) ?_
  refine lv_iconst (v := (nI 0)) hx hb d_TC_isState_1 (by decide) ?_
  refine lv_iconst (v := (nI 5)) hx hb d_TC_isState_2 (by decide) ?_
  refine call_i (rm := { frames := 0, cells := 0, slots := 0, locals := 0 }) hS hP hD hA (spl_mk (wc := []) (wr := []) [] [] rfl rfl (by decide)) (run_s (n := 3) (As := [.int x, .int (nI 0), .int (nI 5)]) (rest := []) C0 (hK.sub [] rfl) (c_TC_isIn l D cI s.heap.size x (nI 0) (nI 5)) wt_125 wt_1 wt_123 wt_124 (by decide +kernel) ⟨Nat.le_of_ble_eq_true rfl, Nat.le_of_ble_eq_true rfl⟩ rfl hl.1 rfl (Nat.le_of_ble_eq_true rfl) d_TC_isState_3 ⟨Nat.le_of_ble_eq_true rfl, Nat.le_of_ble_eq_true rfl⟩) (fun r_3 _u3 H locs hw_3 hP hD hS => ?_)
  have hP : va_P D cls [] H := hP
  have hD : va_D A [] := hD
  subst hw_3
  exact ret_i C0 hr hlk hAe hS () rfl hP hD (bI_n _) (Nat.le_of_ble_eq_true rfl) (Nat.le_of_ble_eq_true rfl) d_TC_isState_6
set_option maxHeartbeats 4000000 in
set_option maxRecDepth 100000 in
theorem c_TC_refusalOfNew (l : Launch) (D : va_G) (cI : ClassId) (sz : Nat) (h : Nat) (an : Nat) (am : Nat) (ak : Nat) (ap : Nat) (ac : Nat) (nm : Nat) (cs : Nat) (mk : Nat) (lr : Nat) (g : Bool) (hcs : cs ≤ 10) : MetI l y_TC_refusalOfNew b_TC_refusalOfNew 2 (some .int) { frames := 0, cells := 0, slots := 0, locals := 0 } D cI [] sz [(h, .inr (0, [.ref an, .ref am, .ref ak, .ref ap, .ref ac, .int (nI nm), .int (nI cs), .int (nI mk), .int (nI lr)]))] [.ref h, .int (bI g)] (fun (r : Int32) (u : Unit) => r = if g = true then (if cs = 10 then -3 else 0) else -2) (fun u : Unit => [(h, .inr (0, [.ref an, .ref am, .ref ak, .ref ap, .ref ac, .int (nI nm), .int (nI cs), .int (nI mk), .int (nI lr)]))]) := by
  refine enter (by decide) (Nat.le_of_ble_eq_true rfl) ?_
  intro p e s m below meth c A ls C0 hr hlk hnm hK hsz hA hAe hP hD hS hl
  have hx := C0.1
  have hb := C0.2.1
  have hl : lv_has ls 2 [(0, .ref h), (1, .int (bI g))] := hl
  refine lv_iload_n hx hb d_TC_refusalOfNew_0 rfl (lv_at hl 1 rfl) ?_
  refine y_ne (tgt := 7) hx hb d_TC_refusalOfNew_1 (by decide) (fun c_1 => ?_) (fun c_1 => ?_)
  · refine lv_aload_n hx hb d_TC_refusalOfNew_7 rfl (lv_at hl 0 rfl) ?_
    refine r_get C0 hK hP 0 rfl rfl i_TC 6 (by decide) wt_93 (fun _ h => h) rfl d_TC_refusalOfNew_8 ?_
    refine lv_bipush (v := (nI 10)) hx hb d_TC_refusalOfNew_11 (by decide) ?_
    refine b_lt (tgt := 21) hx hb (by omega) (by decide) d_TC_refusalOfNew_13 (by decide) (fun c_13 => ?_) (fun c_13 => ?_)
    · refine lv_iconst (v := (nI 0)) hx hb d_TC_refusalOfNew_21 (by decide) ?_
      exact ret_i C0 hr hlk hAe hS () (by rw [if_pos c_1]; first | (rw [if_neg (by omega)]; rfl) | rw [if_pos (by omega)]) hP hD rfl (Nat.le_of_ble_eq_true rfl) (Nat.le_of_ble_eq_true rfl) d_TC_refusalOfNew_22
    · refine lv_bipush (v := (-3)) hx hb d_TC_refusalOfNew_16 (by decide) ?_
      refine lv_goto (tgt := 22) hx hb d_TC_refusalOfNew_18 (by decide) ?_
      exact ret_i C0 hr hlk hAe hS () (by rw [if_pos c_1]; first | (rw [if_neg (by omega)]; rfl) | rw [if_pos (by omega)]) hP hD rfl (Nat.le_of_ble_eq_true rfl) (Nat.le_of_ble_eq_true rfl) d_TC_refusalOfNew_22
  · refine lv_bipush (v := (-2)) hx hb d_TC_refusalOfNew_4 (by decide) ?_
    exact ret_i C0 hr hlk hAe hS () (by rw [if_neg (by rw [c_1]; decide)]) hP hD rfl (Nat.le_of_ble_eq_true rfl) (Nat.le_of_ble_eq_true rfl) d_TC_refusalOfNew_6
set_option maxHeartbeats 4000000 in
set_option maxRecDepth 100000 in
theorem c_TC_domain (l : Launch) (D : va_G) (cI : ClassId) (sz : Nat) (h : Nat) (an : Nat) (am : Nat) (ak : Nat) (ap : Nat) (ac : Nat) (nm : Nat) (cs : Nat) (mk : Nat) (lr : Nat) (cd : Nat) (cr : Nat) (cn : Nat) (dm : Nat → Nat) (x : Int32) (hnm : nm ≤ 6) : MetI l y_TC_domain b_TC_domain 2 (some .int) { frames := 2, cells := 0, slots := 0, locals := 43 } D cI [] sz [(h, .inr (0, [.ref an, .ref am, .ref ak, .ref ap, .ref ac, .int (nI nm), .int (nI cs), .int (nI mk), .int (nI lr)])), (an, .inr (1, [.ref cd, .ref cr, .ref cn])), (cd, .inl (cI, 6, .inl (nA dm)))] [.ref h, .int x] (fun (r : Int32) (u : Unit) => r = (ixN x nm).elim (-2) (fun j => nI (dm j))) (fun u : Unit => [(h, .inr (0, [.ref an, .ref am, .ref ak, .ref ap, .ref ac, .int (nI nm), .int (nI cs), .int (nI mk), .int (nI lr)])), (an, .inr (1, [.ref cd, .ref cr, .ref cn])), (cd, .inl (cI, 6, .inl (nA dm)))]) := by
  refine enter (by decide) (Nat.le_of_ble_eq_true rfl) ?_
  intro p e s m below meth c A ls C0 hr hlk hnm hK hsz hA hAe hP hD hS hl
  have hx := C0.1
  have hb := C0.2.1
  have hl : lv_has ls 2 [(0, .ref h), (1, .int x)] := hl
  refine lv_aload_n hx hb d_TC_domain_0 rfl (lv_at hl 0 rfl) ?_
  refine lv_iload_n hx hb d_TC_domain_1 rfl (lv_at hl 1 rfl) ?_
  refine call_i (rm := { frames := 1, cells := 0, slots := 0, locals := 22 }) hS hP hD hA (spl_mk (wc := [(h, .inr (0, [.ref an, .ref am, .ref ak, .ref ap, .ref ac, .int (nI nm), .int (nI cs), .int (nI mk), .int (nI lr)]))]) (wr := [(an, .inr (1, [.ref cd, .ref cr, .ref cn])), (cd, .inl (cI, 6, .inl (nA dm)))]) [0] [1, 2] rfl rfl (by decide)) (run_v (n := 1) (As := [.int x]) (rest := []) (q0 := 0) (ci := 0) C0 (hK.sub [] rfl) (c_TC_isName l D cI s.heap.size h an am ak ap ac nm cs mk lr x (by omega)) rfl rfl wt_144 wt_1 wt_141 wt_143 wp_1 (by decide +kernel) ⟨Nat.le_of_ble_eq_true rfl, Nat.le_of_ble_eq_true rfl⟩ rfl hl.1 rfl (Nat.le_of_ble_eq_true rfl) d_TC_domain_2 ⟨Nat.le_of_ble_eq_true rfl, Nat.le_of_ble_eq_true rfl⟩) (fun r_2 _u2 H locs hw_2 hP hD hS => ?_)
  have hP : va_P D cls [(an, .inr (1, [.ref cd, .ref cr, .ref cn])), (cd, .inl (cI, 6, .inl (nA dm))), (h, .inr (0, [.ref an, .ref am, .ref ak, .ref ap, .ref ac, .int (nI nm), .int (nI cs), .int (nI mk), .int (nI lr)]))] H := hP
  have hD : va_D A [(an, .inr (1, [.ref cd, .ref cr, .ref cn])), (cd, .inl (cI, 6, .inl (nA dm))), (h, .inr (0, [.ref an, .ref am, .ref ak, .ref ap, .ref ac, .int (nI nm), .int (nI cs), .int (nI mk), .int (nI lr)]))] := hD
  subst hw_2
  refine y_eq (tgt := 20) hx hb d_TC_domain_5 (by decide) (fun c_5 => ?_) (fun c_5 => ?_)
  · have hij := isSome_f (by omega) c_5
    refine lv_bipush (v := (-2)) hx hb d_TC_domain_20 (by decide) ?_
    exact ret_i C0 hr hlk hAe hS () (by rw [hij]; rfl) (hP.sub [2, 0, 1] rfl) (hD.sub [2, 0, 1] (by decide) rfl) rfl (Nat.le_of_ble_eq_true rfl) (Nat.le_of_ble_eq_true rfl) d_TC_domain_22
  · obtain ⟨j, hjj, hxj, hij⟩ := isSome_t (by omega) c_5
    have hl : lv_has ls 2 [(0, .ref h), (1, .int (nI j))] := by rw [← hxj]; exact hl
    refine lv_aload_n hx hb d_TC_domain_8 rfl (lv_at hl 0 rfl) ?_
    refine r_get C0 hK hP 2 rfl rfl i_TC 0 (by decide) wt_87 (fun _ h => h) rfl d_TC_domain_9 ?_
    refine r_get C0 hK hP 0 rfl rfl i_Ch 0 (by decide) wt_32 (fun _ h => h) rfl d_TC_domain_12 ?_
    refine lv_iload_n hx hb d_TC_domain_15 rfl (lv_at hl 1 rfl) ?_
    refine r_ald C0 hK hP 1 rfl (by omega) (by decide) d_TC_domain_16 ?_
    refine t_eq (y := (nI (dm j))) rfl ?_
    refine lv_goto (tgt := 22) hx hb d_TC_domain_17 (by decide) ?_
    exact ret_i C0 hr hlk hAe hS () (by rw [hij]; rfl) (hP.sub [2, 0, 1] rfl) (hD.sub [2, 0, 1] (by decide) rfl) rfl (Nat.le_of_ble_eq_true rfl) (Nat.le_of_ble_eq_true rfl) d_TC_domain_22
set_option maxHeartbeats 4000000 in
set_option maxRecDepth 100000 in
theorem c_TC_why (l : Launch) (D : va_G) (cI : ClassId) (sz : Nat) (h : Nat) (an : Nat) (am : Nat) (ak : Nat) (ap : Nat) (ac : Nat) (nm : Nat) (cs : Nat) (mk : Nat) (lr : Nat) (cd : Nat) (cr : Nat) (cn : Nat) (rs : Nat → Int32) (rn : Nat → Int32) (x : Int32) (y : Int32) (z : Int32) (hnm : nm ≤ 6) : MetI l y_TC_why b_TC_why 5 (some .int) { frames := 2, cells := 0, slots := 0, locals := 43 } D cI [] sz [(h, .inr (0, [.ref an, .ref am, .ref ak, .ref ap, .ref ac, .int (nI nm), .int (nI cs), .int (nI mk), .int (nI lr)])), (an, .inr (1, [.ref cd, .ref cr, .ref cn])), (cr, .inl (cI, 36, .inl rs)), (cn, .inl (cI, 36, .inl rn))] [.ref h, .int x, .int y, .int z] (fun (r : Int32) (u : Unit) => r = (ixN x nm).elim (-2) (fun j => (ixN y 6).elim (-2) (fun v => (ixN z 2).elim (-2) (fun q => if q = 0 then rs (j * 6 + v) else rn (j * 6 + v))))) (fun u : Unit => [(h, .inr (0, [.ref an, .ref am, .ref ak, .ref ap, .ref ac, .int (nI nm), .int (nI cs), .int (nI mk), .int (nI lr)])), (an, .inr (1, [.ref cd, .ref cr, .ref cn])), (cr, .inl (cI, 36, .inl rs)), (cn, .inl (cI, 36, .inl rn))]) := by
  refine enter (by decide) (Nat.le_of_ble_eq_true rfl) ?_
  intro p e s m below meth c A ls C0 hr hlk hnm hK hsz hA hAe hP hD hS hl
  have hx := C0.1
  have hb := C0.2.1
  have hl : lv_has ls 5 [(0, .ref h), (1, .int x), (2, .int y), (3, .int z)] := hl
  refine lv_aload_n hx hb d_TC_why_0 rfl (lv_at hl 0 rfl) ?_
  refine lv_iload_n hx hb d_TC_why_1 rfl (lv_at hl 1 rfl) ?_
  refine call_i (rm := { frames := 1, cells := 0, slots := 0, locals := 22 }) hS hP hD hA (spl_mk (wc := [(h, .inr (0, [.ref an, .ref am, .ref ak, .ref ap, .ref ac, .int (nI nm), .int (nI cs), .int (nI mk), .int (nI lr)]))]) (wr := [(an, .inr (1, [.ref cd, .ref cr, .ref cn])), (cr, .inl (cI, 36, .inl rs)), (cn, .inl (cI, 36, .inl rn))]) [0] [1, 2, 3] rfl rfl (by decide)) (run_v (n := 1) (As := [.int x]) (rest := []) (q0 := 0) (ci := 0) C0 (hK.sub [] rfl) (c_TC_isName l D cI s.heap.size h an am ak ap ac nm cs mk lr x (by omega)) rfl rfl wt_144 wt_1 wt_141 wt_143 wp_1 (by decide +kernel) ⟨Nat.le_of_ble_eq_true rfl, Nat.le_of_ble_eq_true rfl⟩ rfl hl.1 rfl (Nat.le_of_ble_eq_true rfl) d_TC_why_2 ⟨Nat.le_of_ble_eq_true rfl, Nat.le_of_ble_eq_true rfl⟩) (fun r_2 _u2 H locs hw_2 hP hD hS => ?_)
  have hP : va_P D cls [(an, .inr (1, [.ref cd, .ref cr, .ref cn])), (cr, .inl (cI, 36, .inl rs)), (cn, .inl (cI, 36, .inl rn)), (h, .inr (0, [.ref an, .ref am, .ref ak, .ref ap, .ref ac, .int (nI nm), .int (nI cs), .int (nI mk), .int (nI lr)]))] H := hP
  have hD : va_D A [(an, .inr (1, [.ref cd, .ref cr, .ref cn])), (cr, .inl (cI, 36, .inl rs)), (cn, .inl (cI, 36, .inl rn)), (h, .inr (0, [.ref an, .ref am, .ref ak, .ref ap, .ref ac, .int (nI nm), .int (nI cs), .int (nI mk), .int (nI lr)]))] := hD
  subst hw_2
  refine y_eq (tgt := 24) hx hb d_TC_why_5 (by decide) (fun c_5 => ?_) (fun c_5 => ?_)
  · have hij := isSome_f (by omega) c_5
    refine lv_bipush (v := (-2)) hx hb d_TC_why_24 (by decide) ?_
    exact ret_i C0 hr hlk hAe hS () (by first | (rw [hij, hiv, hiq]; rfl) | (rw [hij, hiv]; rfl) | (rw [hij]; rfl)) (hP.sub [3, 0, 1, 2] rfl) (hD.sub [3, 0, 1, 2] (by decide) rfl) rfl (Nat.le_of_ble_eq_true rfl) (Nat.le_of_ble_eq_true rfl) d_TC_why_26
  · obtain ⟨j, hjj, hxj, hij⟩ := isSome_t (by omega) c_5
    have hl : lv_has ls 5 [(0, .ref h), (1, .int (nI j)), (2, .int y), (3, .int z)] := by rw [← hxj]; exact hl
    refine lv_iload_n hx hb d_TC_why_8 rfl (lv_at hl 2 rfl) ?_
    refine call_i (rm := { frames := 1, cells := 0, slots := 0, locals := 22 }) hS hP hD hA (spl_mk (wc := []) (wr := [(an, .inr (1, [.ref cd, .ref cr, .ref cn])), (cr, .inl (cI, 36, .inl rs)), (cn, .inl (cI, 36, .inl rn)), (h, .inr (0, [.ref an, .ref am, .ref ak, .ref ap, .ref ac, .int (nI nm), .int (nI cs), .int (nI mk), .int (nI lr)]))]) [] [0, 1, 2, 3] rfl rfl (by decide)) (run_s (n := 1) (As := [.int y]) (rest := []) C0 (hK.sub [] rfl) (c_TC_isValue l D cI H.size y) wt_221 wt_1 wt_219 wt_220 (by decide +kernel) ⟨Nat.le_of_ble_eq_true rfl, Nat.le_of_ble_eq_true rfl⟩ rfl hl.1 rfl (Nat.le_of_ble_eq_true rfl) d_TC_why_9 ⟨Nat.le_of_ble_eq_true rfl, Nat.le_of_ble_eq_true rfl⟩) (fun r_9 _u9 H locs hw_9 hP hD hS => ?_)
    have hP : va_P D cls [(an, .inr (1, [.ref cd, .ref cr, .ref cn])), (cr, .inl (cI, 36, .inl rs)), (cn, .inl (cI, 36, .inl rn)), (h, .inr (0, [.ref an, .ref am, .ref ak, .ref ap, .ref ac, .int (nI nm), .int (nI cs), .int (nI mk), .int (nI lr)]))] H := hP
    have hD : va_D A [(an, .inr (1, [.ref cd, .ref cr, .ref cn])), (cr, .inl (cI, 36, .inl rs)), (cn, .inl (cI, 36, .inl rn)), (h, .inr (0, [.ref an, .ref am, .ref ak, .ref ap, .ref ac, .int (nI nm), .int (nI cs), .int (nI mk), .int (nI lr)]))] := hD
    subst hw_9
    refine y_eq (tgt := 24) hx hb d_TC_why_12 (by decide) (fun c_12 => ?_) (fun c_12 => ?_)
    · have hiv := ik_f (by decide) c_12
      refine lv_bipush (v := (-2)) hx hb d_TC_why_24 (by decide) ?_
      exact ret_i C0 hr hlk hAe hS () (by first | (rw [hij, hiv, hiq]; rfl) | (rw [hij, hiv]; rfl) | (rw [hij]; rfl)) (hP.sub [3, 0, 1, 2] rfl) (hD.sub [3, 0, 1, 2] (by decide) rfl) rfl (Nat.le_of_ble_eq_true rfl) (Nat.le_of_ble_eq_true rfl) d_TC_why_26
    · obtain ⟨v, hjv, hxv, hiv⟩ := ik_t (by decide) c_12
      have hl : lv_has ls 5 [(0, .ref h), (1, .int (nI j)), (2, .int (nI v)), (3, .int z)] := by rw [← hxv]; exact hl
      refine lv_iload_n hx hb d_TC_why_15 rfl (lv_at hl 3 rfl) ?_
      refine lv_iconst (v := (nI 0)) hx hb d_TC_why_16 (by decide) ?_
      refine lv_iconst (v := (nI 1)) hx hb d_TC_why_17 (by decide) ?_
      refine call_i (rm := { frames := 0, cells := 0, slots := 0, locals := 0 }) hS hP hD hA (spl_mk (wc := []) (wr := [(an, .inr (1, [.ref cd, .ref cr, .ref cn])), (cr, .inl (cI, 36, .inl rs)), (cn, .inl (cI, 36, .inl rn)), (h, .inr (0, [.ref an, .ref am, .ref ak, .ref ap, .ref ac, .int (nI nm), .int (nI cs), .int (nI mk), .int (nI lr)]))]) [] [0, 1, 2, 3] rfl rfl (by decide)) (run_s (n := 3) (As := [.int z, .int (nI 0), .int (nI 1)]) (rest := []) C0 (hK.sub [] rfl) (c_TC_isIn l D cI H.size z (nI 0) (nI 1)) wt_125 wt_1 wt_123 wt_124 (by decide +kernel) ⟨Nat.le_of_ble_eq_true rfl, Nat.le_of_ble_eq_true rfl⟩ rfl hl.1 rfl (Nat.le_of_ble_eq_true rfl) d_TC_why_18 ⟨Nat.le_of_ble_eq_true rfl, Nat.le_of_ble_eq_true rfl⟩) (fun r_18 _u18 H locs hw_18 hP hD hS => ?_)
      have hP : va_P D cls [(an, .inr (1, [.ref cd, .ref cr, .ref cn])), (cr, .inl (cI, 36, .inl rs)), (cn, .inl (cI, 36, .inl rn)), (h, .inr (0, [.ref an, .ref am, .ref ak, .ref ap, .ref ac, .int (nI nm), .int (nI cs), .int (nI mk), .int (nI lr)]))] H := hP
      have hD : va_D A [(an, .inr (1, [.ref cd, .ref cr, .ref cn])), (cr, .inl (cI, 36, .inl rs)), (cn, .inl (cI, 36, .inl rn)), (h, .inr (0, [.ref an, .ref am, .ref ak, .ref ap, .ref ac, .int (nI nm), .int (nI cs), .int (nI mk), .int (nI lr)]))] := hD
      subst hw_18
      refine y_ne (tgt := 27) hx hb d_TC_why_21 (by decide) (fun c_21 => ?_) (fun c_21 => ?_)
      · obtain ⟨q, hjq, hxq, hiq⟩ := ik_t (by decide) c_21
        have hl : lv_has ls 5 [(0, .ref h), (1, .int (nI j)), (2, .int (nI v)), (3, .int (nI q))] := by rw [← hxq]; exact hl
        refine lv_iload_n hx hb d_TC_why_27 rfl (lv_at hl 1 rfl) ?_
        refine lv_bipush (v := (nI 6)) hx hb d_TC_why_28 (by decide) ?_
        refine lv_imul hx hb d_TC_why_30 ?_
        refine t_eq (y := (nI (j * 6))) (pk_mul _ _) ?_
        refine lv_iload_n hx hb d_TC_why_31 rfl (lv_at hl 2 rfl) ?_
        refine lv_iadd hx hb d_TC_why_32 ?_
        refine t_eq (y := (nI ((j * 6) + v))) (nI_add _ _) ?_
        refine lv_istore (lv' := [(4, .int (nI ((j * 6) + v))), (0, .ref h), (1, .int (nI j)), (2, .int (nI v)), (3, .int (nI q))]) hx hb d_TC_why_33 hl (by decide) rfl (fun ls hl => ?_)
        refine lv_iload_n hx hb d_TC_why_35 rfl (lv_at hl 4 rfl) ?_
        refine z_ne (tgt := 52) hx hb (by omega) d_TC_why_36 (by decide) (fun c_36 => ?_) (fun c_36 => ?_)
        · refine lv_aload_n hx hb d_TC_why_52 rfl (lv_at hl 1 rfl) ?_
          refine r_get C0 hK hP 3 rfl rfl i_TC 0 (by decide) wt_87 (fun _ h => h) rfl d_TC_why_53 ?_
          refine r_get C0 hK hP 0 rfl rfl i_Ch 2 (by decide) wt_36 (fun _ h => h) rfl d_TC_why_56 ?_
          refine lv_iload hx hb d_TC_why_59 (lv_at hl 0 rfl) ?_
          refine r_ald C0 hK hP 2 rfl (by omega) (by decide) d_TC_why_61 ?_
          exact ret_i C0 hr hlk hAe hS () (by rw [hij, hiv, hiq]; show _ = (if _ then _ else _); first | rw [if_pos c_36] | rw [if_neg c_36]) (hP.sub [3, 0, 1, 2] rfl) (hD.sub [3, 0, 1, 2] (by decide) rfl) rfl (Nat.le_of_ble_eq_true rfl) (Nat.le_of_ble_eq_true rfl) d_TC_why_62
        · refine lv_aload_n hx hb d_TC_why_39 rfl (lv_at hl 1 rfl) ?_
          refine r_get C0 hK hP 3 rfl rfl i_TC 0 (by decide) wt_87 (fun _ h => h) rfl d_TC_why_40 ?_
          refine r_get C0 hK hP 0 rfl rfl i_Ch 1 (by decide) wt_34 (fun _ h => h) rfl d_TC_why_43 ?_
          refine lv_iload hx hb d_TC_why_46 (lv_at hl 0 rfl) ?_
          refine r_ald C0 hK hP 1 rfl (by omega) (by decide) d_TC_why_48 ?_
          refine lv_goto (tgt := 62) hx hb d_TC_why_49 (by decide) ?_
          exact ret_i C0 hr hlk hAe hS () (by rw [hij, hiv, hiq]; show _ = (if _ then _ else _); first | rw [if_pos c_36] | rw [if_neg c_36]) (hP.sub [3, 0, 1, 2] rfl) (hD.sub [3, 0, 1, 2] (by decide) rfl) rfl (Nat.le_of_ble_eq_true rfl) (Nat.le_of_ble_eq_true rfl) d_TC_why_62
      · have hiq := ik_f (by decide) c_21
        refine lv_bipush (v := (-2)) hx hb d_TC_why_24 (by decide) ?_
        exact ret_i C0 hr hlk hAe hS () (by first | (rw [hij, hiv, hiq]; rfl) | (rw [hij, hiv]; rfl) | (rw [hij]; rfl)) (hP.sub [3, 0, 1, 2] rfl) (hD.sub [3, 0, 1, 2] (by decide) rfl) rfl (Nat.le_of_ble_eq_true rfl) (Nat.le_of_ble_eq_true rfl) d_TC_why_26
set_option maxHeartbeats 4000000 in
set_option maxRecDepth 100000 in
theorem c_TC_valuesInAll (l : Launch) (D : va_G) (cI : ClassId) (sz : Nat) (h : Nat) (an : Nat) (am : Nat) (ak : Nat) (ap : Nat) (ac : Nat) (nm : Nat) (cs : Nat) (mk : Nat) (lr : Nat) (cd : Nat) (cr : Nat) (cn : Nat) (dm : Nat → Nat) (hdm : ∀ j, dm j < 64) : MetI l y_TC_valuesInAll b_TC_valuesInAll 3 (some .int) { frames := 1, cells := 0, slots := 0, locals := 20 } D cI [] sz [(h, .inr (0, [.ref an, .ref am, .ref ak, .ref ap, .ref ac, .int (nI nm), .int (nI cs), .int (nI mk), .int (nI lr)])), (an, .inr (1, [.ref cd, .ref cr, .ref cn])), (cd, .inl (cI, 6, .inl (nA dm)))] [.ref h] (fun (r : Int32) (u : Unit) => r = (nI (sm (fun j => pc6 (dm j)) 6))) (fun u : Unit => [(h, .inr (0, [.ref an, .ref am, .ref ak, .ref ap, .ref ac, .int (nI nm), .int (nI cs), .int (nI mk), .int (nI lr)])), (an, .inr (1, [.ref cd, .ref cr, .ref cn])), (cd, .inl (cI, 6, .inl (nA dm)))]) := by
  refine enter (by decide) (Nat.le_of_ble_eq_true rfl) ?_
  intro p e s m below meth c A ls C0 hr hlk hnm hK hsz hA hAe hP hD hS hl
  have hx := C0.1
  have hb := C0.2.1
  have hl : lv_has ls 3 [(0, .ref h)] := hl
  refine lv_iconst (v := (nI 0)) hx hb d_TC_valuesInAll_0 (by decide) ?_
  refine lv_istore_n (lv' := [(1, .int (nI 0)), (0, .ref h)]) hx hb d_TC_valuesInAll_1 rfl hl (by decide) rfl (fun ls hl => ?_)
  refine lv_iconst (v := (nI 0)) hx hb d_TC_valuesInAll_2 (by decide) ?_
  refine lv_istore_n (lv' := [(2, .int (nI 0)), (1, .int (nI 0)), (0, .ref h)]) hx hb d_TC_valuesInAll_3 rfl hl (by decide) rfl (fun ls hl => ?_)
  have hl : lv_has ls 3 [(2, .int (nI 0)), (1, .int (nI (sm (fun j => pc6 (dm j)) 0))), (0, .ref h)] := by rw [show sm (fun j => pc6 (dm j)) 0 = 0 from rfl]; exact hl
  have L4 : ∀ (fuel4 : Nat) (i : Nat), (i ≤ 6) → (6 < i + fuel4) → ∀ (H : Heap) (locs : List Loc) (ls : Array Slot), va_P D cls [(h, .inr (0, [.ref an, .ref am, .ref ak, .ref ap, .ref ac, .int (nI nm), .int (nI cs), .int (nI mk), .int (nI lr)])), (an, .inr (1, [.ref cd, .ref cr, .ref cn])), (cd, .inl (cI, 6, .inl (nA dm)))] H → va_D A [(h, .inr (0, [.ref an, .ref am, .ref ak, .ref ap, .ref ac, .int (nI nm), .int (nI cs), .int (nI mk), .int (nI lr)])), (an, .inr (1, [.ref cd, .ref cr, .ref cn])), (cd, .inl (cI, 6, .inl (nA dm)))] → va_S A s.heap H locs → lv_has ls 3 [(2, .int (nI i)), (1, .int (nI (sm (fun j => pc6 (dm j)) i))), (0, .ref h)] → W p l e { frames := 1, cells := 0, slots := 0, locals := 20 } s m ([.ref h] : List Value).toArray below meth c H locs 0 0 (MQ below (pstI D [(h, .inr (0, [.ref an, .ref am, .ref ak, .ref ap, .ref ac, .int (nI nm), .int (nI cs), .int (nI mk), .int (nI lr)])), (an, .inr (1, [.ref cd, .ref cr, .ref cn])), (cd, .inl (cI, 6, .inl (nA dm)))] sz (fun (r : Int32) (u : Unit) => r = (nI (sm (fun j => pc6 (dm j)) 6))) (fun u : Unit => [(h, .inr (0, [.ref an, .ref am, .ref ak, .ref ap, .ref ac, .int (nI nm), .int (nI cs), .int (nI mk), .int (nI lr)])), (an, .inr (1, [.ref cd, .ref cr, .ref cn])), (cd, .inl (cI, 6, .inl (nA dm)))])) ([.ref h] : List Value).toArray s 0 0 A) (F0 m 4 ls []) := by
    intro fuel4
    induction fuel4 with
    | zero => intros; omega
    | succ fuel4 ih4 =>
      intro i hi hfu H locs ls hP hD hS hl
      refine lv_iload_n hx hb d_TC_valuesInAll_4 rfl (lv_at hl 0 rfl) ?_
      refine lv_bipush (v := (nI 6)) hx hb d_TC_valuesInAll_5 (by decide) ?_
      refine b_ge (tgt := 31) hx hb (by omega) (by decide) d_TC_valuesInAll_7 (by decide) (fun c_7 => ?_) (fun c_7 => ?_)
      · obtain rfl : i = 6 := (by omega)
        refine lv_iload_n hx hb d_TC_valuesInAll_31 rfl (lv_at hl 1 rfl) ?_
        exact ret_i C0 hr hlk hAe hS () rfl hP hD rfl (Nat.le_of_ble_eq_true rfl) (Nat.le_of_ble_eq_true rfl) d_TC_valuesInAll_32
      · refine lv_iload_n hx hb d_TC_valuesInAll_10 rfl (lv_at hl 1 rfl) ?_
        refine lv_aload_n hx hb d_TC_valuesInAll_11 rfl (lv_at hl 2 rfl) ?_
        refine r_get C0 hK hP 0 rfl rfl i_TC 0 (by decide) wt_87 (fun _ h => h) rfl d_TC_valuesInAll_12 ?_
        refine r_get C0 hK hP 1 rfl rfl i_Ch 0 (by decide) wt_32 (fun _ h => h) rfl d_TC_valuesInAll_15 ?_
        refine lv_iload_n hx hb d_TC_valuesInAll_18 rfl (lv_at hl 0 rfl) ?_
        refine r_ald C0 hK hP 2 rfl (by omega) (by decide) d_TC_valuesInAll_19 ?_
        refine t_eq (y := (nI (dm i))) rfl ?_
        refine call_i (rm := { frames := 0, cells := 0, slots := 0, locals := 0 }) hS hP hD hA (spl_mk (wc := []) (wr := [(h, .inr (0, [.ref an, .ref am, .ref ak, .ref ap, .ref ac, .int (nI nm), .int (nI cs), .int (nI mk), .int (nI lr)])), (an, .inr (1, [.ref cd, .ref cr, .ref cn])), (cd, .inl (cI, 6, .inl (nA dm)))]) [] [0, 1, 2] rfl rfl (by decide)) (run_s (n := 1) (As := [.int (nI (dm i))]) (rest := [.int (nI (sm (fun j => pc6 (dm j)) i))]) C0 (hK.sub [] rfl) (c_JI_bitCount l D cI H.size (dm i) (hdm i)) wt_398 wt_14 wt_636 wt_397 (by decide +kernel) ⟨Nat.le_of_ble_eq_true rfl, Nat.le_of_ble_eq_true rfl⟩ rfl hl.1 rfl (Nat.le_of_ble_eq_true rfl) d_TC_valuesInAll_20 ⟨Nat.le_of_ble_eq_true rfl, Nat.le_of_ble_eq_true rfl⟩) (fun r_20 _u20 H locs hw_20 hP hD hS => ?_)
        have hP : va_P D cls [(h, .inr (0, [.ref an, .ref am, .ref ak, .ref ap, .ref ac, .int (nI nm), .int (nI cs), .int (nI mk), .int (nI lr)])), (an, .inr (1, [.ref cd, .ref cr, .ref cn])), (cd, .inl (cI, 6, .inl (nA dm)))] H := hP
        have hD : va_D A [(h, .inr (0, [.ref an, .ref am, .ref ak, .ref ap, .ref ac, .int (nI nm), .int (nI cs), .int (nI mk), .int (nI lr)])), (an, .inr (1, [.ref cd, .ref cr, .ref cn])), (cd, .inl (cI, 6, .inl (nA dm)))] := hD
        subst hw_20
        refine lv_iadd hx hb d_TC_valuesInAll_23 ?_
        refine t_eq (y := (nI ((sm (fun j => pc6 (dm j)) i) + (pc6 (dm i))))) (nI_add _ _) ?_
        refine t_eq (y := nI (sm (fun j => pc6 (dm j)) (i + 1))) rfl ?_
        refine lv_istore_n (lv' := [(1, .int (nI (sm (fun j => pc6 (dm j)) (i + 1)))), (2, .int (nI i)), (0, .ref h)]) hx hb d_TC_valuesInAll_24 rfl hl (by decide) rfl (fun ls hl => ?_)
        refine lv_iinc (v := (nI (i + 1))) (lv' := [(2, .int (nI (i + 1))), (1, .int (nI (sm (fun j => pc6 (dm j)) (i + 1)))), (0, .ref h)]) hx hb d_TC_valuesInAll_25 hl (k := 1) rfl (by exact nI_1 _) (by decide) rfl (fun ls hl => ?_)
        refine lv_goto (tgt := 4) hx hb d_TC_valuesInAll_28 (by decide) ?_
        exact ih4 (i + 1) (by omega) (by omega) _ _ _ hP hD hS (lv_sub hl [0, 1, 2] rfl)
  exact L4 (7) 0 (by omega) (by omega) _ _ _ hP hD hS (lv_sub hl [0, 1, 2] rfl)
