abbrev stT : Type := Nat × Nat × Nat × Nat × Nat
def oSt (ki : Nat → Nat) (cs : Nat) (x f v g z : Int32) : Option stT := (ixN x cs).bind (fun j => if ki j = 1 then (ixN f 6).bind (fun a => (ixN v 6).bind (fun b => (ixN g 6).bind (fun d => (ixN z 101).map (fun q => (j, a, b, d, q))))) else none)
abbrev st5 : Type := (Nat → Nat) × (Nat → Nat) × (Nat → Nat) × (Nat → Nat) × (Nat → Nat)
def stS (sf sv so sc mn : Nat → Nat) (o : Option stT) : Int32 × st5 := match o with
  | none => (-2, sf, sv, so, sc, mn)
  | some t => if mn t.1 = 30 then (-3, sf, sv, so, sc, mn) else (nI (mn t.1 + 1), va_up sf (30 * t.1 + mn t.1) t.2.1, va_up sv (30 * t.1 + mn t.1) t.2.2.1, va_up so (30 * t.1 + mn t.1) t.2.2.2.1, va_up sc (30 * t.1 + mn t.1) t.2.2.2.2, va_up mn t.1 (mn t.1 + 1))
theorem oSt_n {ki : Nat → Nat} {cs : Nat} {x f v g z : Int32} (h : (∀ j, ixN x cs = some j → ¬ ki j = 1) ∨ ixN f 6 = none ∨ ixN v 6 = none ∨ ixN g 6 = none ∨ ixN z 101 = none) : oSt ki cs x f v g z = none := by
  unfold oSt
  cases hx : ixN x cs with
  | none => rfl
  | some j =>
    show (if _ then _ else _) = _
    split
    · next hk =>
      rcases h with h | h
      · exact absurd hk (h j hx)
      · cases hf : ixN f 6 with
        | none => rfl
        | some a =>
          cases hv : ixN v 6 with
          | none => rfl
          | some b =>
            cases hg : ixN g 6 with
            | none => rfl
            | some d =>
              cases hz : ixN z 101 with
              | none => rfl
              | some q => rcases h with h | h | h | h <;> simp_all
    · rfl
theorem oSt_s {ki : Nat → Nat} {cs j a b d q : Nat} {x f v g z : Int32} (hx : ixN x cs = some j) (hk : ki j = 1) (h1 : ixN f 6 = some a) (h2 : ixN v 6 = some b) (h3 : ixN g 6 = some d) (h4 : ixN z 101 = some q) : oSt ki cs x f v g z = some (j, a, b, d, q) := by
  unfold oSt
  rw [hx]
  show (if _ then _ else _) = _
  rw [if_pos hk, h1]
  show (ixN v 6).bind _ = _
  rw [h2]
  show (ixN g 6).bind _ = _
  rw [h3]
  show (ixN z 101).map _ = _
  rw [h4]
  rfl
set_option maxHeartbeats 4000000 in
set_option maxRecDepth 100000 in
theorem c_M_step (l : Launch) (D : va_G) (cI : ClassId) (sz : Nat) (h : Nat) (ad : Nat → Nat) (nm : Nat) (mk : Nat) (rd : Nat) (cs : Nat) (ki : Nat → Nat) (mn : Nat → Nat) (sf : Nat → Nat) (sv : Nat → Nat) (so : Nat → Nat) (sc : Nat → Nat) (x : Int32) (f : Int32) (v : Int32) (g : Int32) (z : Int32) (hcs : cs ≤ 10) (hki : ∀ j, ki j ≤ 6) (hmn : ∀ j, j < cs → ki j = 1 → mn j ≤ 30) : MetI l y_M_step b_M_step 7 (some .int) { frames := 2, cells := 0, slots := 0, locals := 44 } D cI [] sz [(h, .inr (10, oM ad nm mk rd cs)), (ad 10, .inl (cI, 10, .inl (nA ki))), (ad 17, .inl (cI, 10, .inl (nA mn))), (ad 19, .inl (cI, 300, .inl (nA sf))), (ad 20, .inl (cI, 300, .inl (nA sv))), (ad 21, .inl (cI, 300, .inl (nA so))), (ad 22, .inl (cI, 300, .inl (nA sc)))] [.ref h, .int x, .int f, .int v, .int g, .int z] (fun (r : Int32) (u : st5) => (r, u) = stS sf sv so sc mn (oSt ki cs x f v g z)) (fun u : st5 => [(h, .inr (10, oM ad nm mk rd cs)), (ad 10, .inl (cI, 10, .inl (nA ki))), (ad 17, .inl (cI, 10, .inl (nA u.2.2.2.2))), (ad 19, .inl (cI, 300, .inl (nA u.1))), (ad 20, .inl (cI, 300, .inl (nA u.2.1))), (ad 21, .inl (cI, 300, .inl (nA u.2.2.1))), (ad 22, .inl (cI, 300, .inl (nA u.2.2.2.1)))]) := by
  refine enter (by decide) (Nat.le_of_ble_eq_true rfl) ?_
  intro p e s m below meth c A ls C0 hr hlk hnm hK hsz hA hAe hP hD hS hl
  have hx := C0.1
  have hb := C0.2.1
  have hl : lv_has ls 7 [(0, .ref h), (1, .int x), (2, .int f), (3, .int v), (4, .int g), (5, .int z)] := hl
  refine lv_aload_n hx hb d_M_step_0 rfl (lv_at hl 0 rfl) ?_
  refine lv_iload_n hx hb d_M_step_1 rfl (lv_at hl 1 rfl) ?_
  refine lv_iconst (v := (nI 1)) hx hb d_M_step_2 (by decide) ?_
  refine call_i (rm := { frames := 1, cells := 0, slots := 0, locals := 22 }) hS hP hD hA (spl_mk (wc := [(h, .inr (10, oM ad nm mk rd cs)), (ad 10, .inl (cI, 10, .inl (nA ki)))]) (wr := [(ad 17, .inl (cI, 10, .inl (nA mn))), (ad 19, .inl (cI, 300, .inl (nA sf))), (ad 20, .inl (cI, 300, .inl (nA sv))), (ad 21, .inl (cI, 300, .inl (nA so))), (ad 22, .inl (cI, 300, .inl (nA sc)))]) [0, 1] [2, 3, 4, 5, 6] rfl rfl (by decide)) (run_v (n := 2) (As := [.int x, .int (nI 1)]) (rest := []) (q0 := 0) (ci := 10) C0 (hK.sub [] rfl) (c_M_isOf l D cI s.heap.size h ad nm mk rd cs ki x 1 hcs hki (by decide)) rfl rfl wt_778 wt_4 wt_775 wt_777 wp_20 (by decide +kernel) ⟨Nat.le_of_ble_eq_true rfl, Nat.le_of_ble_eq_true rfl⟩ rfl hl.1 rfl (Nat.le_of_ble_eq_true rfl) d_M_step_3 ⟨Nat.le_of_ble_eq_true rfl, Nat.le_of_ble_eq_true rfl⟩) (fun r_3 _u3 H locs hw_3 hP hD hS => ?_)
  have hP : va_P D cls [(ad 17, .inl (cI, 10, .inl (nA mn))), (ad 19, .inl (cI, 300, .inl (nA sf))), (ad 20, .inl (cI, 300, .inl (nA sv))), (ad 21, .inl (cI, 300, .inl (nA so))), (ad 22, .inl (cI, 300, .inl (nA sc))), (h, .inr (10, oM ad nm mk rd cs)), (ad 10, .inl (cI, 10, .inl (nA ki)))] H := hP
  have hD : va_D A [(ad 17, .inl (cI, 10, .inl (nA mn))), (ad 19, .inl (cI, 300, .inl (nA sf))), (ad 20, .inl (cI, 300, .inl (nA sv))), (ad 21, .inl (cI, 300, .inl (nA so))), (ad 22, .inl (cI, 300, .inl (nA sc))), (h, .inr (10, oM ad nm mk rd cs)), (ad 10, .inl (cI, 10, .inl (nA ki)))] := hD
  subst hw_3
  refine y_eq (tgt := 48) hx hb d_M_step_6 (by decide) (fun c_6 => ?_) (fun c_6 => ?_)
  · have hof := of_f c_6
    refine lv_bipush (v := (-2)) hx hb d_M_step_48 (by decide) ?_
    exact ret_i C0 hr hlk hAe hS (sf, sv, so, sc, mn) (by rw [oSt_n (by first | exact Or.inr (Or.inr (Or.inr (Or.inr hiza))) | exact Or.inr (Or.inr (Or.inr (Or.inl higa))) | exact Or.inr (Or.inr (Or.inl hiva)) | exact Or.inr (Or.inl hifa) | exact Or.inl hof)]; rfl) (hP.sub [5, 6, 0, 1, 2, 3, 4] rfl) (hD.sub [5, 6, 0, 1, 2, 3, 4] (by decide) rfl) rfl (Nat.le_of_ble_eq_true rfl) (Nat.le_of_ble_eq_true rfl) d_M_step_50
  · obtain ⟨j, hjj, hxj, hij, hkj⟩ := of_t hcs c_6
    have hl : lv_has ls 7 [(0, .ref h), (1, .int (nI j)), (2, .int f), (3, .int v), (4, .int g), (5, .int z)] := by rw [← hxj]; exact hl
    have hmj := hmn j hjj hkj
    refine lv_iload_n hx hb d_M_step_9 rfl (lv_at hl 2 rfl) ?_
    refine lv_iconst (v := (nI 0)) hx hb d_M_step_10 (by decide) ?_
    refine lv_iconst (v := (nI 5)) hx hb d_M_step_11 (by decide) ?_
    refine call_i (rm := { frames := 0, cells := 0, slots := 0, locals := 0 }) hS hP hD hA (spl_mk (wc := []) (wr := [(ad 17, .inl (cI, 10, .inl (nA mn))), (ad 19, .inl (cI, 300, .inl (nA sf))), (ad 20, .inl (cI, 300, .inl (nA sv))), (ad 21, .inl (cI, 300, .inl (nA so))), (ad 22, .inl (cI, 300, .inl (nA sc))), (h, .inr (10, oM ad nm mk rd cs)), (ad 10, .inl (cI, 10, .inl (nA ki)))]) [] [0, 1, 2, 3, 4, 5, 6] rfl rfl (by decide)) (run_s (n := 3) (As := [.int f, .int (nI 0), .int (nI 5)]) (rest := []) C0 (hK.sub [] rfl) (c_M_isIn l D cI H.size f (nI 0) (nI 5)) wt_758 wt_4 wt_756 wt_757 (by decide +kernel) ⟨Nat.le_of_ble_eq_true rfl, Nat.le_of_ble_eq_true rfl⟩ rfl hl.1 rfl (Nat.le_of_ble_eq_true rfl) d_M_step_12 ⟨Nat.le_of_ble_eq_true rfl, Nat.le_of_ble_eq_true rfl⟩) (fun r_12 _u12 H locs hw_12 hP hD hS => ?_)
    have hP : va_P D cls [(ad 17, .inl (cI, 10, .inl (nA mn))), (ad 19, .inl (cI, 300, .inl (nA sf))), (ad 20, .inl (cI, 300, .inl (nA sv))), (ad 21, .inl (cI, 300, .inl (nA so))), (ad 22, .inl (cI, 300, .inl (nA sc))), (h, .inr (10, oM ad nm mk rd cs)), (ad 10, .inl (cI, 10, .inl (nA ki)))] H := hP
    have hD : va_D A [(ad 17, .inl (cI, 10, .inl (nA mn))), (ad 19, .inl (cI, 300, .inl (nA sf))), (ad 20, .inl (cI, 300, .inl (nA sv))), (ad 21, .inl (cI, 300, .inl (nA so))), (ad 22, .inl (cI, 300, .inl (nA sc))), (h, .inr (10, oM ad nm mk rd cs)), (ad 10, .inl (cI, 10, .inl (nA ki)))] := hD
    subst hw_12
    refine y_eq (tgt := 48) hx hb d_M_step_15 (by decide) (fun c_15 => ?_) (fun c_15 => ?_)
    · have hifa := ik_f (by decide) c_15
      refine lv_bipush (v := (-2)) hx hb d_M_step_48 (by decide) ?_
      exact ret_i C0 hr hlk hAe hS (sf, sv, so, sc, mn) (by rw [oSt_n (by first | exact Or.inr (Or.inr (Or.inr (Or.inr hiza))) | exact Or.inr (Or.inr (Or.inr (Or.inl higa))) | exact Or.inr (Or.inr (Or.inl hiva)) | exact Or.inr (Or.inl hifa) | exact Or.inl hof)]; rfl) (hP.sub [5, 6, 0, 1, 2, 3, 4] rfl) (hD.sub [5, 6, 0, 1, 2, 3, 4] (by decide) rfl) rfl (Nat.le_of_ble_eq_true rfl) (Nat.le_of_ble_eq_true rfl) d_M_step_50
    · obtain ⟨fa, hjfa, hxfa, hifa⟩ := ik_t (by decide) c_15
      have hl : lv_has ls 7 [(0, .ref h), (1, .int (nI j)), (2, .int (nI fa)), (3, .int v), (4, .int g), (5, .int z)] := by rw [← hxfa]; exact hl
      refine lv_iload_n hx hb d_M_step_18 rfl (lv_at hl 3 rfl) ?_
      refine lv_iconst (v := (nI 0)) hx hb d_M_step_19 (by decide) ?_
      refine lv_iconst (v := (nI 5)) hx hb d_M_step_20 (by decide) ?_
      refine call_i (rm := { frames := 0, cells := 0, slots := 0, locals := 0 }) hS hP hD hA (spl_mk (wc := []) (wr := [(ad 17, .inl (cI, 10, .inl (nA mn))), (ad 19, .inl (cI, 300, .inl (nA sf))), (ad 20, .inl (cI, 300, .inl (nA sv))), (ad 21, .inl (cI, 300, .inl (nA so))), (ad 22, .inl (cI, 300, .inl (nA sc))), (h, .inr (10, oM ad nm mk rd cs)), (ad 10, .inl (cI, 10, .inl (nA ki)))]) [] [0, 1, 2, 3, 4, 5, 6] rfl rfl (by decide)) (run_s (n := 3) (As := [.int v, .int (nI 0), .int (nI 5)]) (rest := []) C0 (hK.sub [] rfl) (c_M_isIn l D cI H.size v (nI 0) (nI 5)) wt_758 wt_4 wt_756 wt_757 (by decide +kernel) ⟨Nat.le_of_ble_eq_true rfl, Nat.le_of_ble_eq_true rfl⟩ rfl hl.1 rfl (Nat.le_of_ble_eq_true rfl) d_M_step_21 ⟨Nat.le_of_ble_eq_true rfl, Nat.le_of_ble_eq_true rfl⟩) (fun r_21 _u21 H locs hw_21 hP hD hS => ?_)
      have hP : va_P D cls [(ad 17, .inl (cI, 10, .inl (nA mn))), (ad 19, .inl (cI, 300, .inl (nA sf))), (ad 20, .inl (cI, 300, .inl (nA sv))), (ad 21, .inl (cI, 300, .inl (nA so))), (ad 22, .inl (cI, 300, .inl (nA sc))), (h, .inr (10, oM ad nm mk rd cs)), (ad 10, .inl (cI, 10, .inl (nA ki)))] H := hP
      have hD : va_D A [(ad 17, .inl (cI, 10, .inl (nA mn))), (ad 19, .inl (cI, 300, .inl (nA sf))), (ad 20, .inl (cI, 300, .inl (nA sv))), (ad 21, .inl (cI, 300, .inl (nA so))), (ad 22, .inl (cI, 300, .inl (nA sc))), (h, .inr (10, oM ad nm mk rd cs)), (ad 10, .inl (cI, 10, .inl (nA ki)))] := hD
      subst hw_21
      refine y_eq (tgt := 48) hx hb d_M_step_24 (by decide) (fun c_24 => ?_) (fun c_24 => ?_)
      · have hiva := ik_f (by decide) c_24
        refine lv_bipush (v := (-2)) hx hb d_M_step_48 (by decide) ?_
        exact ret_i C0 hr hlk hAe hS (sf, sv, so, sc, mn) (by rw [oSt_n (by first | exact Or.inr (Or.inr (Or.inr (Or.inr hiza))) | exact Or.inr (Or.inr (Or.inr (Or.inl higa))) | exact Or.inr (Or.inr (Or.inl hiva)) | exact Or.inr (Or.inl hifa) | exact Or.inl hof)]; rfl) (hP.sub [5, 6, 0, 1, 2, 3, 4] rfl) (hD.sub [5, 6, 0, 1, 2, 3, 4] (by decide) rfl) rfl (Nat.le_of_ble_eq_true rfl) (Nat.le_of_ble_eq_true rfl) d_M_step_50
      · obtain ⟨va, hjva, hxva, hiva⟩ := ik_t (by decide) c_24
        have hl : lv_has ls 7 [(0, .ref h), (1, .int (nI j)), (2, .int (nI fa)), (3, .int (nI va)), (4, .int g), (5, .int z)] := by rw [← hxva]; exact hl
        refine lv_iload hx hb d_M_step_27 (lv_at hl 4 rfl) ?_
        refine lv_iconst (v := (nI 0)) hx hb d_M_step_29 (by decide) ?_
        refine lv_iconst (v := (nI 5)) hx hb d_M_step_30 (by decide) ?_
        refine call_i (rm := { frames := 0, cells := 0, slots := 0, locals := 0 }) hS hP hD hA (spl_mk (wc := []) (wr := [(ad 17, .inl (cI, 10, .inl (nA mn))), (ad 19, .inl (cI, 300, .inl (nA sf))), (ad 20, .inl (cI, 300, .inl (nA sv))), (ad 21, .inl (cI, 300, .inl (nA so))), (ad 22, .inl (cI, 300, .inl (nA sc))), (h, .inr (10, oM ad nm mk rd cs)), (ad 10, .inl (cI, 10, .inl (nA ki)))]) [] [0, 1, 2, 3, 4, 5, 6] rfl rfl (by decide)) (run_s (n := 3) (As := [.int g, .int (nI 0), .int (nI 5)]) (rest := []) C0 (hK.sub [] rfl) (c_M_isIn l D cI H.size g (nI 0) (nI 5)) wt_758 wt_4 wt_756 wt_757 (by decide +kernel) ⟨Nat.le_of_ble_eq_true rfl, Nat.le_of_ble_eq_true rfl⟩ rfl hl.1 rfl (Nat.le_of_ble_eq_true rfl) d_M_step_31 ⟨Nat.le_of_ble_eq_true rfl, Nat.le_of_ble_eq_true rfl⟩) (fun r_31 _u31 H locs hw_31 hP hD hS => ?_)
        have hP : va_P D cls [(ad 17, .inl (cI, 10, .inl (nA mn))), (ad 19, .inl (cI, 300, .inl (nA sf))), (ad 20, .inl (cI, 300, .inl (nA sv))), (ad 21, .inl (cI, 300, .inl (nA so))), (ad 22, .inl (cI, 300, .inl (nA sc))), (h, .inr (10, oM ad nm mk rd cs)), (ad 10, .inl (cI, 10, .inl (nA ki)))] H := hP
        have hD : va_D A [(ad 17, .inl (cI, 10, .inl (nA mn))), (ad 19, .inl (cI, 300, .inl (nA sf))), (ad 20, .inl (cI, 300, .inl (nA sv))), (ad 21, .inl (cI, 300, .inl (nA so))), (ad 22, .inl (cI, 300, .inl (nA sc))), (h, .inr (10, oM ad nm mk rd cs)), (ad 10, .inl (cI, 10, .inl (nA ki)))] := hD
        subst hw_31
        refine y_eq (tgt := 48) hx hb d_M_step_34 (by decide) (fun c_34 => ?_) (fun c_34 => ?_)
        · have higa := ik_f (by decide) c_34
          refine lv_bipush (v := (-2)) hx hb d_M_step_48 (by decide) ?_
          exact ret_i C0 hr hlk hAe hS (sf, sv, so, sc, mn) (by rw [oSt_n (by first | exact Or.inr (Or.inr (Or.inr (Or.inr hiza))) | exact Or.inr (Or.inr (Or.inr (Or.inl higa))) | exact Or.inr (Or.inr (Or.inl hiva)) | exact Or.inr (Or.inl hifa) | exact Or.inl hof)]; rfl) (hP.sub [5, 6, 0, 1, 2, 3, 4] rfl) (hD.sub [5, 6, 0, 1, 2, 3, 4] (by decide) rfl) rfl (Nat.le_of_ble_eq_true rfl) (Nat.le_of_ble_eq_true rfl) d_M_step_50
        · obtain ⟨ga, hjga, hxga, higa⟩ := ik_t (by decide) c_34
          have hl : lv_has ls 7 [(0, .ref h), (1, .int (nI j)), (2, .int (nI fa)), (3, .int (nI va)), (4, .int (nI ga)), (5, .int z)] := by rw [← hxga]; exact hl
          refine lv_iload hx hb d_M_step_37 (lv_at hl 5 rfl) ?_
          refine lv_iconst (v := (nI 0)) hx hb d_M_step_39 (by decide) ?_
          refine lv_bipush (v := (nI 100)) hx hb d_M_step_40 (by decide) ?_
          refine call_i (rm := { frames := 0, cells := 0, slots := 0, locals := 0 }) hS hP hD hA (spl_mk (wc := []) (wr := [(ad 17, .inl (cI, 10, .inl (nA mn))), (ad 19, .inl (cI, 300, .inl (nA sf))), (ad 20, .inl (cI, 300, .inl (nA sv))), (ad 21, .inl (cI, 300, .inl (nA so))), (ad 22, .inl (cI, 300, .inl (nA sc))), (h, .inr (10, oM ad nm mk rd cs)), (ad 10, .inl (cI, 10, .inl (nA ki)))]) [] [0, 1, 2, 3, 4, 5, 6] rfl rfl (by decide)) (run_s (n := 3) (As := [.int z, .int (nI 0), .int (nI 100)]) (rest := []) C0 (hK.sub [] rfl) (c_M_isIn l D cI H.size z (nI 0) (nI 100)) wt_758 wt_4 wt_756 wt_757 (by decide +kernel) ⟨Nat.le_of_ble_eq_true rfl, Nat.le_of_ble_eq_true rfl⟩ rfl hl.1 rfl (Nat.le_of_ble_eq_true rfl) d_M_step_42 ⟨Nat.le_of_ble_eq_true rfl, Nat.le_of_ble_eq_true rfl⟩) (fun r_42 _u42 H locs hw_42 hP hD hS => ?_)
          have hP : va_P D cls [(ad 17, .inl (cI, 10, .inl (nA mn))), (ad 19, .inl (cI, 300, .inl (nA sf))), (ad 20, .inl (cI, 300, .inl (nA sv))), (ad 21, .inl (cI, 300, .inl (nA so))), (ad 22, .inl (cI, 300, .inl (nA sc))), (h, .inr (10, oM ad nm mk rd cs)), (ad 10, .inl (cI, 10, .inl (nA ki)))] H := hP
          have hD : va_D A [(ad 17, .inl (cI, 10, .inl (nA mn))), (ad 19, .inl (cI, 300, .inl (nA sf))), (ad 20, .inl (cI, 300, .inl (nA sv))), (ad 21, .inl (cI, 300, .inl (nA so))), (ad 22, .inl (cI, 300, .inl (nA sc))), (h, .inr (10, oM ad nm mk rd cs)), (ad 10, .inl (cI, 10, .inl (nA ki)))] := hD
          subst hw_42
          refine y_ne (tgt := 51) hx hb d_M_step_45 (by decide) (fun c_45 => ?_) (fun c_45 => ?_)
          · obtain ⟨za, hjza, hxza, hiza⟩ := ik_t (by decide) c_45
            have hl : lv_has ls 7 [(0, .ref h), (1, .int (nI j)), (2, .int (nI fa)), (3, .int (nI va)), (4, .int (nI ga)), (5, .int (nI za))] := by rw [← hxza]; exact hl
            refine lv_aload_n hx hb d_M_step_51 rfl (lv_at hl 0 rfl) ?_
            refine r_get C0 hK hP 5 rfl rfl i_M 17 (by decide) wt_680 (fun _ h => h) rfl d_M_step_52 ?_
            refine lv_iload_n hx hb d_M_step_55 rfl (lv_at hl 1 rfl) ?_
            refine r_ald C0 hK hP 0 rfl (by omega) (by decide) d_M_step_56 ?_
            refine t_eq (y := (nI (mn j))) rfl ?_
            refine lv_bipush (v := (nI 30)) hx hb d_M_step_57 (by decide) ?_
            refine b_ne (tgt := 65) hx hb (by omega) (by decide) d_M_step_59 (by decide) (fun c_59 => ?_) (fun c_59 => ?_)
            · refine lv_bipush (v := (nI 30)) hx hb d_M_step_65 (by decide) ?_
              refine lv_iload_n hx hb d_M_step_67 rfl (lv_at hl 1 rfl) ?_
              refine lv_imul hx hb d_M_step_68 ?_
              refine t_eq (y := (nI (30 * j))) (pk_mul _ _) ?_
              refine lv_aload_n hx hb d_M_step_69 rfl (lv_at hl 0 rfl) ?_
              refine r_get C0 hK hP 5 rfl rfl i_M 17 (by decide) wt_680 (fun _ h => h) rfl d_M_step_70 ?_
              refine lv_iload_n hx hb d_M_step_73 rfl (lv_at hl 1 rfl) ?_
              refine r_ald C0 hK hP 0 rfl (by omega) (by decide) d_M_step_74 ?_
              refine t_eq (y := (nI (mn j))) rfl ?_
              refine lv_iadd hx hb d_M_step_75 ?_
              refine t_eq (y := (nI ((30 * j) + (mn j)))) (nI_add _ _) ?_
              refine lv_istore (lv' := [(6, .int (nI ((30 * j) + (mn j)))), (0, .ref h), (1, .int (nI j)), (2, .int (nI fa)), (3, .int (nI va)), (4, .int (nI ga)), (5, .int (nI za))]) hx hb d_M_step_76 hl (by decide) rfl (fun ls hl => ?_)
              refine lv_aload_n hx hb d_M_step_78 rfl (lv_at hl 1 rfl) ?_
              refine r_get C0 hK hP 5 rfl rfl i_M 19 (by decide) wt_682 (fun _ h => h) rfl d_M_step_79 ?_
              refine lv_iload hx hb d_M_step_82 (lv_at hl 0 rfl) ?_
              refine lv_iload_n hx hb d_M_step_84 rfl (lv_at hl 3 rfl) ?_
              refine r_astN C0 hK hP hD hS 1 rfl (by omega) (by decide) d_M_step_85 (fun H locs hP hD hS => ?_)
              have hP : va_P D cls [(ad 17, .inl (cI, 10, .inl (nA mn))), (ad 19, .inl (cI, 300, .inl (nA (va_up sf ((30 * j) + (mn j)) fa)))), (ad 20, .inl (cI, 300, .inl (nA sv))), (ad 21, .inl (cI, 300, .inl (nA so))), (ad 22, .inl (cI, 300, .inl (nA sc))), (h, .inr (10, oM ad nm mk rd cs)), (ad 10, .inl (cI, 10, .inl (nA ki)))] H := hP
              have hD : va_D A [(ad 17, .inl (cI, 10, .inl (nA mn))), (ad 19, .inl (cI, 300, .inl (nA (va_up sf ((30 * j) + (mn j)) fa)))), (ad 20, .inl (cI, 300, .inl (nA sv))), (ad 21, .inl (cI, 300, .inl (nA so))), (ad 22, .inl (cI, 300, .inl (nA sc))), (h, .inr (10, oM ad nm mk rd cs)), (ad 10, .inl (cI, 10, .inl (nA ki)))] := hD
              refine lv_aload_n hx hb d_M_step_86 rfl (lv_at hl 1 rfl) ?_
              refine r_get C0 hK hP 5 rfl rfl i_M 20 (by decide) wt_683 (fun _ h => h) rfl d_M_step_87 ?_
              refine lv_iload hx hb d_M_step_90 (lv_at hl 0 rfl) ?_
              refine lv_iload_n hx hb d_M_step_92 rfl (lv_at hl 4 rfl) ?_
              refine r_astN C0 hK hP hD hS 2 rfl (by omega) (by decide) d_M_step_93 (fun H locs hP hD hS => ?_)
              have hP : va_P D cls [(ad 17, .inl (cI, 10, .inl (nA mn))), (ad 19, .inl (cI, 300, .inl (nA (va_up sf ((30 * j) + (mn j)) fa)))), (ad 20, .inl (cI, 300, .inl (nA (va_up sv ((30 * j) + (mn j)) va)))), (ad 21, .inl (cI, 300, .inl (nA so))), (ad 22, .inl (cI, 300, .inl (nA sc))), (h, .inr (10, oM ad nm mk rd cs)), (ad 10, .inl (cI, 10, .inl (nA ki)))] H := hP
              have hD : va_D A [(ad 17, .inl (cI, 10, .inl (nA mn))), (ad 19, .inl (cI, 300, .inl (nA (va_up sf ((30 * j) + (mn j)) fa)))), (ad 20, .inl (cI, 300, .inl (nA (va_up sv ((30 * j) + (mn j)) va)))), (ad 21, .inl (cI, 300, .inl (nA so))), (ad 22, .inl (cI, 300, .inl (nA sc))), (h, .inr (10, oM ad nm mk rd cs)), (ad 10, .inl (cI, 10, .inl (nA ki)))] := hD
              refine lv_aload_n hx hb d_M_step_94 rfl (lv_at hl 1 rfl) ?_
              refine r_get C0 hK hP 5 rfl rfl i_M 21 (by decide) wt_684 (fun _ h => h) rfl d_M_step_95 ?_
              refine lv_iload hx hb d_M_step_98 (lv_at hl 0 rfl) ?_
              refine lv_iload hx hb d_M_step_100 (lv_at hl 5 rfl) ?_
              refine r_astN C0 hK hP hD hS 3 rfl (by omega) (by decide) d_M_step_102 (fun H locs hP hD hS => ?_)
              have hP : va_P D cls [(ad 17, .inl (cI, 10, .inl (nA mn))), (ad 19, .inl (cI, 300, .inl (nA (va_up sf ((30 * j) + (mn j)) fa)))), (ad 20, .inl (cI, 300, .inl (nA (va_up sv ((30 * j) + (mn j)) va)))), (ad 21, .inl (cI, 300, .inl (nA (va_up so ((30 * j) + (mn j)) ga)))), (ad 22, .inl (cI, 300, .inl (nA sc))), (h, .inr (10, oM ad nm mk rd cs)), (ad 10, .inl (cI, 10, .inl (nA ki)))] H := hP
              have hD : va_D A [(ad 17, .inl (cI, 10, .inl (nA mn))), (ad 19, .inl (cI, 300, .inl (nA (va_up sf ((30 * j) + (mn j)) fa)))), (ad 20, .inl (cI, 300, .inl (nA (va_up sv ((30 * j) + (mn j)) va)))), (ad 21, .inl (cI, 300, .inl (nA (va_up so ((30 * j) + (mn j)) ga)))), (ad 22, .inl (cI, 300, .inl (nA sc))), (h, .inr (10, oM ad nm mk rd cs)), (ad 10, .inl (cI, 10, .inl (nA ki)))] := hD
              refine lv_aload_n hx hb d_M_step_103 rfl (lv_at hl 1 rfl) ?_
              refine r_get C0 hK hP 5 rfl rfl i_M 22 (by decide) wt_685 (fun _ h => h) rfl d_M_step_104 ?_
              refine lv_iload hx hb d_M_step_107 (lv_at hl 0 rfl) ?_
              refine lv_iload hx hb d_M_step_109 (lv_at hl 6 rfl) ?_
              refine r_astN C0 hK hP hD hS 4 rfl (by omega) (by decide) d_M_step_111 (fun H locs hP hD hS => ?_)
              have hP : va_P D cls [(ad 17, .inl (cI, 10, .inl (nA mn))), (ad 19, .inl (cI, 300, .inl (nA (va_up sf ((30 * j) + (mn j)) fa)))), (ad 20, .inl (cI, 300, .inl (nA (va_up sv ((30 * j) + (mn j)) va)))), (ad 21, .inl (cI, 300, .inl (nA (va_up so ((30 * j) + (mn j)) ga)))), (ad 22, .inl (cI, 300, .inl (nA (va_up sc ((30 * j) + (mn j)) za)))), (h, .inr (10, oM ad nm mk rd cs)), (ad 10, .inl (cI, 10, .inl (nA ki)))] H := hP
              have hD : va_D A [(ad 17, .inl (cI, 10, .inl (nA mn))), (ad 19, .inl (cI, 300, .inl (nA (va_up sf ((30 * j) + (mn j)) fa)))), (ad 20, .inl (cI, 300, .inl (nA (va_up sv ((30 * j) + (mn j)) va)))), (ad 21, .inl (cI, 300, .inl (nA (va_up so ((30 * j) + (mn j)) ga)))), (ad 22, .inl (cI, 300, .inl (nA (va_up sc ((30 * j) + (mn j)) za)))), (h, .inr (10, oM ad nm mk rd cs)), (ad 10, .inl (cI, 10, .inl (nA ki)))] := hD
              refine lv_aload_n hx hb d_M_step_112 rfl (lv_at hl 1 rfl) ?_
              refine r_get C0 hK hP 5 rfl rfl i_M 17 (by decide) wt_680 (fun _ h => h) rfl d_M_step_113 ?_
              refine lv_iload_n hx hb d_M_step_116 rfl (lv_at hl 2 rfl) ?_
              refine lv_dup2_11 hx hb d_M_step_117 rfl rfl ?_
              refine r_ald C0 hK hP 0 rfl (by omega) (by decide) d_M_step_118 ?_
              refine t_eq (y := (nI (mn j))) rfl ?_
              refine lv_iconst (v := (nI 1)) hx hb d_M_step_119 (by decide) ?_
              refine lv_iadd hx hb d_M_step_120 ?_
              refine t_eq (y := (nI ((mn j) + 1))) (nI_add _ _) ?_
              refine r_astN C0 hK hP hD hS 0 rfl (by omega) (by decide) d_M_step_121 (fun H locs hP hD hS => ?_)
              have hP : va_P D cls [(ad 17, .inl (cI, 10, .inl (nA (va_up mn j ((mn j) + 1))))), (ad 19, .inl (cI, 300, .inl (nA (va_up sf ((30 * j) + (mn j)) fa)))), (ad 20, .inl (cI, 300, .inl (nA (va_up sv ((30 * j) + (mn j)) va)))), (ad 21, .inl (cI, 300, .inl (nA (va_up so ((30 * j) + (mn j)) ga)))), (ad 22, .inl (cI, 300, .inl (nA (va_up sc ((30 * j) + (mn j)) za)))), (h, .inr (10, oM ad nm mk rd cs)), (ad 10, .inl (cI, 10, .inl (nA ki)))] H := hP
              have hD : va_D A [(ad 17, .inl (cI, 10, .inl (nA (va_up mn j ((mn j) + 1))))), (ad 19, .inl (cI, 300, .inl (nA (va_up sf ((30 * j) + (mn j)) fa)))), (ad 20, .inl (cI, 300, .inl (nA (va_up sv ((30 * j) + (mn j)) va)))), (ad 21, .inl (cI, 300, .inl (nA (va_up so ((30 * j) + (mn j)) ga)))), (ad 22, .inl (cI, 300, .inl (nA (va_up sc ((30 * j) + (mn j)) za)))), (h, .inr (10, oM ad nm mk rd cs)), (ad 10, .inl (cI, 10, .inl (nA ki)))] := hD
              refine lv_aload_n hx hb d_M_step_122 rfl (lv_at hl 1 rfl) ?_
              refine r_get C0 hK hP 5 rfl rfl i_M 17 (by decide) wt_680 (fun _ h => h) rfl d_M_step_123 ?_
              refine lv_iload_n hx hb d_M_step_126 rfl (lv_at hl 2 rfl) ?_
              refine r_ald C0 hK hP 0 rfl (by omega) (by decide) d_M_step_127 ?_
              refine t_eq (y := (nI ((va_up mn j ((mn j) + 1)) j))) rfl ?_
              exact ret_i C0 hr hlk hAe hS (va_up sf ((30 * j) + (mn j)) fa, va_up sv ((30 * j) + (mn j)) va, va_up so ((30 * j) + (mn j)) ga, va_up sc ((30 * j) + (mn j)) za, va_up mn j ((mn j) + 1)) (by rw [oSt_s hij hkj hifa hiva higa hiza]; show _ = (if _ then _ else _); rw [if_neg c_59, va_up_self]) (hP.sub [5, 6, 0, 1, 2, 3, 4] rfl) (hD.sub [5, 6, 0, 1, 2, 3, 4] (by decide) rfl) rfl (Nat.le_of_ble_eq_true rfl) (Nat.le_of_ble_eq_true rfl) d_M_step_128
            · refine lv_bipush (v := (-3)) hx hb d_M_step_62 (by decide) ?_
              exact ret_i C0 hr hlk hAe hS (sf, sv, so, sc, mn) (by rw [oSt_s hij hkj hifa hiva higa hiza]; show _ = (if _ then _ else _); rw [if_pos c_59]) (hP.sub [5, 6, 0, 1, 2, 3, 4] rfl) (hD.sub [5, 6, 0, 1, 2, 3, 4] (by decide) rfl) rfl (Nat.le_of_ble_eq_true rfl) (Nat.le_of_ble_eq_true rfl) d_M_step_64
          · have hiza := ik_f (by decide) c_45
            refine lv_bipush (v := (-2)) hx hb d_M_step_48 (by decide) ?_
            exact ret_i C0 hr hlk hAe hS (sf, sv, so, sc, mn) (by rw [oSt_n (by first | exact Or.inr (Or.inr (Or.inr (Or.inr hiza))) | exact Or.inr (Or.inr (Or.inr (Or.inl higa))) | exact Or.inr (Or.inr (Or.inl hiva)) | exact Or.inr (Or.inl hifa) | exact Or.inl hof)]; rfl) (hP.sub [5, 6, 0, 1, 2, 3, 4] rfl) (hD.sub [5, 6, 0, 1, 2, 3, 4] (by decide) rfl) rfl (Nat.le_of_ble_eq_true rfl) (Nat.le_of_ble_eq_true rfl) d_M_step_50
abbrev nmT : Type := Nat × (Nat → Nat) × (Nat → Int32) × (Nat → Int32)
def nmS (nm mk : Nat) (dm : Nat → Nat) (rs rn : Nat → Int32) (o : Option Nat) : Int32 × nmT := match o with
  | none => (-2, nm, dm, rs, rn)
  | some v => if v = 0 then (-2, nm, dm, rs, rn) else if 0 < mk then (-5, nm, dm, rs, rn) else if nm = 6 then (-3, nm, dm, rs, rn) else (nI nm, nm + 1, va_up dm nm (1 * 2 ^ v - 1), fil rs (6 * nm) (bgR v) 6, fil rn (6 * nm) (fun _ => nI 0) 6)
set_option maxHeartbeats 4000000 in
set_option maxRecDepth 100000 in
theorem c_M_name (l : Launch) (D : va_G) (cI : ClassId) (sz : Nat) (h : Nat) (ad : Nat → Nat) (nm : Nat) (mk : Nat) (rd : Nat) (cs : Nat) (dm : Nat → Nat) (rs : Nat → Int32) (rn : Nat → Int32) (x : Int32) (hnm : nm ≤ 6) (hmk : mk ≤ 8) : MetI l y_M_name b_M_name 3 (some .int) { frames := 1, cells := 0, slots := 0, locals := 22 } D cI [] sz [(h, .inr (10, oM ad nm mk rd cs)), (ad 1, .inl (cI, 6, .inl (nA dm))), (ad 2, .inl (cI, 36, .inl rs)), (ad 3, .inl (cI, 36, .inl rn))] [.ref h, .int x] (fun (r : Int32) (u : nmT) => (r, u) = nmS nm mk dm rs rn (ixN x 7)) (fun u : nmT => [(h, .inr (10, oM ad u.1 mk rd cs)), (ad 1, .inl (cI, 6, .inl (nA u.2.1))), (ad 2, .inl (cI, 36, .inl u.2.2.1)), (ad 3, .inl (cI, 36, .inl u.2.2.2))]) := by
  refine enter (by decide) (Nat.le_of_ble_eq_true rfl) ?_
  intro p e s m below meth c A ls C0 hr hlk hnm hK hsz hA hAe hP hD hS hl
  have hx := C0.1
  have hb := C0.2.1
  have hl : lv_has ls 3 [(0, .ref h), (1, .int x)] := hl
  refine lv_iload_n hx hb d_M_name_0 rfl (lv_at hl 1 rfl) ?_
  refine lv_iconst (v := (nI 1)) hx hb d_M_name_1 (by decide) ?_
  refine lv_bipush (v := (nI 6)) hx hb d_M_name_2 (by decide) ?_
  refine call_i (rm := { frames := 0, cells := 0, slots := 0, locals := 0 }) hS hP hD hA (spl_mk (wc := []) (wr := [(h, .inr (10, oM ad nm mk rd cs)), (ad 1, .inl (cI, 6, .inl (nA dm))), (ad 2, .inl (cI, 36, .inl rs)), (ad 3, .inl (cI, 36, .inl rn))]) [] [0, 1, 2, 3] rfl rfl (by decide)) (run_s (n := 3) (As := [.int x, .int (nI 1), .int (nI 6)]) (rest := []) C0 (hK.sub [] rfl) (c_M_isIn l D cI s.heap.size x (nI 1) (nI 6)) wt_758 wt_4 wt_756 wt_757 (by decide +kernel) ⟨Nat.le_of_ble_eq_true rfl, Nat.le_of_ble_eq_true rfl⟩ rfl hl.1 rfl (Nat.le_of_ble_eq_true rfl) d_M_name_4 ⟨Nat.le_of_ble_eq_true rfl, Nat.le_of_ble_eq_true rfl⟩) (fun r_4 _u4 H locs hw_4 hP hD hS => ?_)
  have hP : va_P D cls [(h, .inr (10, oM ad nm mk rd cs)), (ad 1, .inl (cI, 6, .inl (nA dm))), (ad 2, .inl (cI, 36, .inl rs)), (ad 3, .inl (cI, 36, .inl rn))] H := hP
  have hD : va_D A [(h, .inr (10, oM ad nm mk rd cs)), (ad 1, .inl (cI, 6, .inl (nA dm))), (ad 2, .inl (cI, 36, .inl rs)), (ad 3, .inl (cI, 36, .inl rn))] := hD
  subst hw_4
  refine y_ne (tgt := 13) hx hb d_M_name_7 (by decide) (fun c_7 => ?_) (fun c_7 => ?_)
  · obtain ⟨v, hjv, hxv, hiv⟩ := i1_t (by decide) c_7
    have hl : lv_has ls 3 [(0, .ref h), (1, .int (nI v))] := by rw [← hxv]; exact hl
    refine lv_aload_n hx hb d_M_name_13 rfl (lv_at hl 0 rfl) ?_
    refine r_get C0 hK hP 0 rfl rfl i_M 4 (by decide) wt_667 (fun _ h => h) rfl d_M_name_14 ?_
    refine z_le (tgt := 23) hx hb (by omega) d_M_name_17 (by decide) (fun c_17 => ?_) (fun c_17 => ?_)
    · refine lv_aload_n hx hb d_M_name_23 rfl (lv_at hl 0 rfl) ?_
      refine r_get C0 hK hP 0 rfl rfl i_M 0 (by decide) wt_663 (fun _ h => h) rfl d_M_name_24 ?_
      refine lv_bipush (v := (nI 6)) hx hb d_M_name_27 (by decide) ?_
      refine b_ne (tgt := 35) hx hb (by omega) (by decide) d_M_name_29 (by decide) (fun c_29 => ?_) (fun c_29 => ?_)
      · refine lv_aload_n hx hb d_M_name_35 rfl (lv_at hl 0 rfl) ?_
        refine r_get C0 hK hP 0 rfl rfl i_M 1 (by decide) wt_664 (fun _ h => h) rfl d_M_name_36 ?_
        refine lv_aload_n hx hb d_M_name_39 rfl (lv_at hl 0 rfl) ?_
        refine r_get C0 hK hP 0 rfl rfl i_M 0 (by decide) wt_663 (fun _ h => h) rfl d_M_name_40 ?_
        refine lv_iconst (v := (nI 1)) hx hb d_M_name_43 (by decide) ?_
        refine lv_iload_n hx hb d_M_name_44 rfl (lv_at hl 1 rfl) ?_
        refine lv_ishl hx hb d_M_name_45 ?_
        refine t_eq (y := (nI (1 * 2 ^ v))) (m_shl _ (by omega)) ?_
        refine lv_iconst (v := (nI 1)) hx hb d_M_name_46 (by decide) ?_
        refine lv_isub hx hb d_M_name_47 ?_
        refine t_eq (y := (nI ((1 * 2 ^ v) - 1))) (pk_sub (by have := Nat.two_pow_pos v; omega)) ?_
        refine r_astN C0 hK hP hD hS 1 rfl (by omega) (by decide) d_M_name_48 (fun H locs hP hD hS => ?_)
        have hP : va_P D cls [(h, .inr (10, oM ad nm mk rd cs)), (ad 1, .inl (cI, 6, .inl (nA (va_up dm nm ((1 * 2 ^ v) - 1))))), (ad 2, .inl (cI, 36, .inl rs)), (ad 3, .inl (cI, 36, .inl rn))] H := hP
        have hD : va_D A [(h, .inr (10, oM ad nm mk rd cs)), (ad 1, .inl (cI, 6, .inl (nA (va_up dm nm ((1 * 2 ^ v) - 1))))), (ad 2, .inl (cI, 36, .inl rs)), (ad 3, .inl (cI, 36, .inl rn))] := hD
        refine lv_iconst (v := (nI 0)) hx hb d_M_name_49 (by decide) ?_
        refine lv_istore_n (lv' := [(2, .int (nI 0)), (0, .ref h), (1, .int (nI v))]) hx hb d_M_name_50 rfl hl (by decide) rfl (fun ls hl => ?_)
        rw [show rs = fil rs (6 * nm) (bgR v) 0 from fil_0.symm] at hP hD
        rw [show rn = fil rn (6 * nm) (fun _ => nI 0) 0 from fil_0.symm] at hP hD
        have L51 : ∀ (fuel51 : Nat) (i : Nat), (i ≤ 6) → (6 < i + fuel51) → ∀ (H : Heap) (locs : List Loc) (ls : Array Slot), va_P D cls [(h, .inr (10, oM ad nm mk rd cs)), (ad 1, .inl (cI, 6, .inl (nA (va_up dm nm (1 * 2 ^ v - 1))))), (ad 2, .inl (cI, 36, .inl (fil rs (6 * nm) (bgR v) i))), (ad 3, .inl (cI, 36, .inl (fil rn (6 * nm) (fun _ => nI 0) i)))] H → va_D A [(h, .inr (10, oM ad nm mk rd cs)), (ad 1, .inl (cI, 6, .inl (nA (va_up dm nm (1 * 2 ^ v - 1))))), (ad 2, .inl (cI, 36, .inl (fil rs (6 * nm) (bgR v) i))), (ad 3, .inl (cI, 36, .inl (fil rn (6 * nm) (fun _ => nI 0) i)))] → va_S A s.heap H locs → lv_has ls 3 [(2, .int (nI i)), (0, .ref h), (1, .int (nI v))] → W p l e { frames := 1, cells := 0, slots := 0, locals := 22 } s m ([.ref h, .int x] : List Value).toArray below meth c H locs 0 0 (MQ below (pstI D [(h, .inr (10, oM ad nm mk rd cs)), (ad 1, .inl (cI, 6, .inl (nA dm))), (ad 2, .inl (cI, 36, .inl rs)), (ad 3, .inl (cI, 36, .inl rn))] sz (fun (r : Int32) (u : nmT) => (r, u) = nmS nm mk dm rs rn (ixN x 7)) (fun u : nmT => [(h, .inr (10, oM ad u.1 mk rd cs)), (ad 1, .inl (cI, 6, .inl (nA u.2.1))), (ad 2, .inl (cI, 36, .inl u.2.2.1)), (ad 3, .inl (cI, 36, .inl u.2.2.2))])) ([.ref h, .int x] : List Value).toArray s 0 0 A) (F0 m 51 ls []) := by
          intro fuel51
          induction fuel51 with
          | zero => intros; omega
          | succ fuel51 ih51 =>
            intro i hi hfu H locs ls hP hD hS hl
            refine lv_iload_n hx hb d_M_name_51 rfl (lv_at hl 0 rfl) ?_
            refine lv_bipush (v := (nI 6)) hx hb d_M_name_52 (by decide) ?_
            refine b_ge (tgt := 103) hx hb (by omega) (by decide) d_M_name_54 (by decide) (fun c_54 => ?_) (fun c_54 => ?_)
            · obtain rfl : i = 6 := (by omega)
              refine lv_aload_n hx hb d_M_name_103 rfl (lv_at hl 1 rfl) ?_
              refine lv_dup hx hb d_M_name_104 rfl ?_
              refine r_get C0 hK hP 0 rfl rfl i_M 0 (by decide) wt_663 (fun _ h => h) rfl d_M_name_105 ?_
              refine lv_iconst (v := (nI 1)) hx hb d_M_name_108 (by decide) ?_
              refine lv_iadd hx hb d_M_name_109 ?_
              refine t_eq (y := (nI (nm + 1))) (nI_add _ _) ?_
              refine r_put C0 hK hP hD hS 0 rfl rfl i_M t_M k_M n_M 0 (by decide) wt_663 (fun _ h => h) rfl rfl rfl (Nat.le_of_ble_eq_true rfl) d_M_name_110 (fun H locs hP hD hS => ?_)
              have hP : va_P D cls [(h, .inr (10, oM ad (nm + 1) mk rd cs)), (ad 1, .inl (cI, 6, .inl (nA (va_up dm nm (1 * 2 ^ v - 1))))), (ad 2, .inl (cI, 36, .inl (fil rs (6 * nm) (bgR v) 6))), (ad 3, .inl (cI, 36, .inl (fil rn (6 * nm) (fun _ => nI 0) 6)))] H := hP
              have hD : va_D A [(h, .inr (10, oM ad (nm + 1) mk rd cs)), (ad 1, .inl (cI, 6, .inl (nA (va_up dm nm (1 * 2 ^ v - 1))))), (ad 2, .inl (cI, 36, .inl (fil rs (6 * nm) (bgR v) 6))), (ad 3, .inl (cI, 36, .inl (fil rn (6 * nm) (fun _ => nI 0) 6)))] := hD
              refine lv_aload_n hx hb d_M_name_113 rfl (lv_at hl 1 rfl) ?_
              refine r_get C0 hK hP 0 rfl rfl i_M 0 (by decide) wt_663 (fun _ h => h) rfl d_M_name_114 ?_
              refine lv_iconst (v := (nI 1)) hx hb d_M_name_117 (by decide) ?_
              refine lv_isub hx hb d_M_name_118 ?_
              refine t_eq (y := (nI ((nm + 1) - 1))) (pk_sub (by omega)) ?_
              refine t_eq (y := nI nm) (by rw [Nat.add_sub_cancel]) ?_
              exact ret_i C0 hr hlk hAe hS (nm + 1, va_up dm nm (1 * 2 ^ v - 1), fil rs (6 * nm) (bgR v) 6, fil rn (6 * nm) (fun _ => nI 0) 6) (by rw [hiv]; show _ = (if _ then _ else (if _ then _ else (if _ then _ else _))); rw [if_neg (by omega), if_neg (by omega), if_neg c_29]) hP hD rfl (Nat.le_of_ble_eq_true rfl) (Nat.le_of_ble_eq_true rfl) d_M_name_119
            · refine lv_aload_n hx hb d_M_name_57 rfl (lv_at hl 1 rfl) ?_
              refine r_get C0 hK hP 0 rfl rfl i_M 2 (by decide) wt_665 (fun _ h => h) rfl d_M_name_58 ?_
              refine lv_bipush (v := (nI 6)) hx hb d_M_name_61 (by decide) ?_
              refine lv_aload_n hx hb d_M_name_63 rfl (lv_at hl 1 rfl) ?_
              refine r_get C0 hK hP 0 rfl rfl i_M 0 (by decide) wt_663 (fun _ h => h) rfl d_M_name_64 ?_
              refine lv_imul hx hb d_M_name_67 ?_
              refine t_eq (y := (nI (6 * nm))) (pk_mul _ _) ?_
              refine lv_iload_n hx hb d_M_name_68 rfl (lv_at hl 0 rfl) ?_
              refine lv_iadd hx hb d_M_name_69 ?_
              refine t_eq (y := (nI ((6 * nm) + i))) (nI_add _ _) ?_
              refine lv_iload_n hx hb d_M_name_70 rfl (lv_at hl 0 rfl) ?_
              refine lv_iload_n hx hb d_M_name_71 rfl (lv_at hl 2 rfl) ?_
              refine b_ge (tgt := 79) hx hb (by omega) (by omega) d_M_name_72 (by decide) (fun c_72 => ?_) (fun c_72 => ?_)
              · refine lv_bipush (v := (nI 11)) hx hb d_M_name_79 (by decide) ?_
                refine r_ast C0 hK hP hD hS 2 rfl (by omega) (by decide) d_M_name_81 (fun H locs hP hD hS => ?_)
                have hP : va_P D cls [(h, .inr (10, oM ad nm mk rd cs)), (ad 1, .inl (cI, 6, .inl (nA (va_up dm nm (1 * 2 ^ v - 1))))), (ad 2, .inl (cI, 36, .inl (upd (fil rs (6 * nm) (bgR v) i) ((6 * nm) + i) (nI 11)))), (ad 3, .inl (cI, 36, .inl (fil rn (6 * nm) (fun _ => nI 0) i)))] H := hP
                have hD : va_D A [(h, .inr (10, oM ad nm mk rd cs)), (ad 1, .inl (cI, 6, .inl (nA (va_up dm nm (1 * 2 ^ v - 1))))), (ad 2, .inl (cI, 36, .inl (upd (fil rs (6 * nm) (bgR v) i) ((6 * nm) + i) (nI 11)))), (ad 3, .inl (cI, 36, .inl (fil rn (6 * nm) (fun _ => nI 0) i)))] := hD
                refine lv_aload_n hx hb d_M_name_82 rfl (lv_at hl 1 rfl) ?_
                refine r_get C0 hK hP 0 rfl rfl i_M 3 (by decide) wt_666 (fun _ h => h) rfl d_M_name_83 ?_
                refine lv_bipush (v := (nI 6)) hx hb d_M_name_86 (by decide) ?_
                refine lv_aload_n hx hb d_M_name_88 rfl (lv_at hl 1 rfl) ?_
                refine r_get C0 hK hP 0 rfl rfl i_M 0 (by decide) wt_663 (fun _ h => h) rfl d_M_name_89 ?_
                refine lv_imul hx hb d_M_name_92 ?_
                refine t_eq (y := (nI (6 * nm))) (pk_mul _ _) ?_
                refine lv_iload_n hx hb d_M_name_93 rfl (lv_at hl 0 rfl) ?_
                refine lv_iadd hx hb d_M_name_94 ?_
                refine t_eq (y := (nI ((6 * nm) + i))) (nI_add _ _) ?_
                refine lv_iconst (v := (nI 0)) hx hb d_M_name_95 (by decide) ?_
                refine r_ast C0 hK hP hD hS 3 rfl (by omega) (by decide) d_M_name_96 (fun H locs hP hD hS => ?_)
                have hP : va_P D cls [(h, .inr (10, oM ad nm mk rd cs)), (ad 1, .inl (cI, 6, .inl (nA (va_up dm nm (1 * 2 ^ v - 1))))), (ad 2, .inl (cI, 36, .inl (upd (fil rs (6 * nm) (bgR v) i) ((6 * nm) + i) (nI 11)))), (ad 3, .inl (cI, 36, .inl (upd (fil rn (6 * nm) (fun _ => nI 0) i) ((6 * nm) + i) (nI 0))))] H := hP
                have hD : va_D A [(h, .inr (10, oM ad nm mk rd cs)), (ad 1, .inl (cI, 6, .inl (nA (va_up dm nm (1 * 2 ^ v - 1))))), (ad 2, .inl (cI, 36, .inl (upd (fil rs (6 * nm) (bgR v) i) ((6 * nm) + i) (nI 11)))), (ad 3, .inl (cI, 36, .inl (upd (fil rn (6 * nm) (fun _ => nI 0) i) ((6 * nm) + i) (nI 0))))] := hD
                rw [show (upd (fil rs (6 * nm) (bgR v) i) ((6 * nm) + i) (nI 11)) = fil rs (6 * nm) (bgR v) (i + 1) from fil_1 (by unfold bgR; rw [if_neg (by omega)])] at hP hD
                rw [show (upd (fil rn (6 * nm) (fun _ => nI 0) i) ((6 * nm) + i) (nI 0)) = fil rn (6 * nm) (fun _ => nI 0) (i + 1) from fil_1 rfl] at hP hD
                refine lv_iinc (v := (nI (i + 1))) (lv' := [(2, .int (nI (i + 1))), (0, .ref h), (1, .int (nI v))]) hx hb d_M_name_97 hl (k := 0) rfl (by exact nI_1 _) (by decide) rfl (fun ls hl => ?_)
                refine lv_goto (tgt := 51) hx hb d_M_name_100 (by decide) ?_
                exact ih51 (i + 1) (by omega) (by omega) _ _ _ hP hD hS (lv_sub hl [0, 1, 2] rfl)
              · refine lv_iconst (v := (-1)) hx hb d_M_name_75 (by decide) ?_
                refine lv_goto (tgt := 81) hx hb d_M_name_76 (by decide) ?_
                refine r_ast C0 hK hP hD hS 2 rfl (by omega) (by decide) d_M_name_81 (fun H locs hP hD hS => ?_)
                have hP : va_P D cls [(h, .inr (10, oM ad nm mk rd cs)), (ad 1, .inl (cI, 6, .inl (nA (va_up dm nm (1 * 2 ^ v - 1))))), (ad 2, .inl (cI, 36, .inl (upd (fil rs (6 * nm) (bgR v) i) ((6 * nm) + i) (-1)))), (ad 3, .inl (cI, 36, .inl (fil rn (6 * nm) (fun _ => nI 0) i)))] H := hP
                have hD : va_D A [(h, .inr (10, oM ad nm mk rd cs)), (ad 1, .inl (cI, 6, .inl (nA (va_up dm nm (1 * 2 ^ v - 1))))), (ad 2, .inl (cI, 36, .inl (upd (fil rs (6 * nm) (bgR v) i) ((6 * nm) + i) (-1)))), (ad 3, .inl (cI, 36, .inl (fil rn (6 * nm) (fun _ => nI 0) i)))] := hD
                refine lv_aload_n hx hb d_M_name_82 rfl (lv_at hl 1 rfl) ?_
                refine r_get C0 hK hP 0 rfl rfl i_M 3 (by decide) wt_666 (fun _ h => h) rfl d_M_name_83 ?_
                refine lv_bipush (v := (nI 6)) hx hb d_M_name_86 (by decide) ?_
                refine lv_aload_n hx hb d_M_name_88 rfl (lv_at hl 1 rfl) ?_
                refine r_get C0 hK hP 0 rfl rfl i_M 0 (by decide) wt_663 (fun _ h => h) rfl d_M_name_89 ?_
                refine lv_imul hx hb d_M_name_92 ?_
                refine t_eq (y := (nI (6 * nm))) (pk_mul _ _) ?_
                refine lv_iload_n hx hb d_M_name_93 rfl (lv_at hl 0 rfl) ?_
                refine lv_iadd hx hb d_M_name_94 ?_
                refine t_eq (y := (nI ((6 * nm) + i))) (nI_add _ _) ?_
                refine lv_iconst (v := (nI 0)) hx hb d_M_name_95 (by decide) ?_
                refine r_ast C0 hK hP hD hS 3 rfl (by omega) (by decide) d_M_name_96 (fun H locs hP hD hS => ?_)
                have hP : va_P D cls [(h, .inr (10, oM ad nm mk rd cs)), (ad 1, .inl (cI, 6, .inl (nA (va_up dm nm (1 * 2 ^ v - 1))))), (ad 2, .inl (cI, 36, .inl (upd (fil rs (6 * nm) (bgR v) i) ((6 * nm) + i) (-1)))), (ad 3, .inl (cI, 36, .inl (upd (fil rn (6 * nm) (fun _ => nI 0) i) ((6 * nm) + i) (nI 0))))] H := hP
                have hD : va_D A [(h, .inr (10, oM ad nm mk rd cs)), (ad 1, .inl (cI, 6, .inl (nA (va_up dm nm (1 * 2 ^ v - 1))))), (ad 2, .inl (cI, 36, .inl (upd (fil rs (6 * nm) (bgR v) i) ((6 * nm) + i) (-1)))), (ad 3, .inl (cI, 36, .inl (upd (fil rn (6 * nm) (fun _ => nI 0) i) ((6 * nm) + i) (nI 0))))] := hD
                rw [show (upd (fil rs (6 * nm) (bgR v) i) ((6 * nm) + i) (-1)) = fil rs (6 * nm) (bgR v) (i + 1) from fil_1 (by unfold bgR; rw [if_pos c_72])] at hP hD
                rw [show (upd (fil rn (6 * nm) (fun _ => nI 0) i) ((6 * nm) + i) (nI 0)) = fil rn (6 * nm) (fun _ => nI 0) (i + 1) from fil_1 rfl] at hP hD
                refine lv_iinc (v := (nI (i + 1))) (lv' := [(2, .int (nI (i + 1))), (0, .ref h), (1, .int (nI v))]) hx hb d_M_name_97 hl (k := 0) rfl (by exact nI_1 _) (by decide) rfl (fun ls hl => ?_)
                refine lv_goto (tgt := 51) hx hb d_M_name_100 (by decide) ?_
                exact ih51 (i + 1) (by omega) (by omega) _ _ _ hP hD hS (lv_sub hl [0, 1, 2] rfl)
        exact L51 (7) 0 (by omega) (by omega) _ _ _ hP hD hS (lv_sub hl [0, 1, 2] rfl)
      · refine lv_bipush (v := (-3)) hx hb d_M_name_32 (by decide) ?_
        exact ret_i C0 hr hlk hAe hS (nm, dm, rs, rn) (by rw [hiv]; show _ = (if _ then _ else (if _ then _ else (if _ then _ else _))); rw [if_neg (by omega), if_neg (by omega), if_pos c_29]) hP hD rfl (Nat.le_of_ble_eq_true rfl) (Nat.le_of_ble_eq_true rfl) d_M_name_34
    · refine lv_bipush (v := (-5)) hx hb d_M_name_20 (by decide) ?_
      exact ret_i C0 hr hlk hAe hS (nm, dm, rs, rn) (by rw [hiv]; show _ = (if _ then _ else (if _ then _ else _)); rw [if_neg (by omega), if_pos c_17]) hP hD rfl (Nat.le_of_ble_eq_true rfl) (Nat.le_of_ble_eq_true rfl) d_M_name_22
  · have hiv := i1_f (by decide) c_7
    refine lv_bipush (v := (-2)) hx hb d_M_name_10 (by decide) ?_
    exact ret_i C0 hr hlk hAe hS (nm, dm, rs, rn) (by rcases hiv with hiv | hiv <;> rw [hiv] <;> rfl) hP hD rfl (Nat.le_of_ble_eq_true rfl) (Nat.le_of_ble_eq_true rfl) d_M_name_12
abbrev ctT : Type := (Nat → Nat) × (Nat → Int32) × (Nat → Int32)
def cutS (dm : Nat → Nat) (rs rn : Nat → Int32) (o : Option (Nat × Nat)) : Int32 × ctT := match o with
  | none => (-2, dm, rs, rn)
  | some t => if dm t.1 &&& t.2 = 0 then (-4, dm, rs, rn) else (nI (sm (fun v => dif (dm t.1) t.2 / 2 ^ v % 2) 6), va_up dm t.1 (dif (dm t.1) (dif (dm t.1) t.2)), mkS rs (6 * t.1) (dif (dm t.1) t.2) (nI 10) 6, mkS rn (6 * t.1) (dif (dm t.1) t.2) (nI 0) 6)
def oCut (nm : Nat) (x y : Int32) : Option (Nat × Nat) := (ixN x nm).bind (fun j => (ixN y 64).map (fun w => (j, w)))
set_option maxHeartbeats 4000000 in
set_option maxRecDepth 100000 in
theorem c_M_cut (l : Launch) (D : va_G) (cI : ClassId) (sz : Nat) (h : Nat) (ad : Nat → Nat) (nm : Nat) (mk : Nat) (rd : Nat) (cs : Nat) (dm : Nat → Nat) (rs : Nat → Int32) (rn : Nat → Int32) (x : Int32) (y : Int32) (hnm : nm ≤ 6) (hdm : ∀ j, dm j < 64) : MetI l y_M_cut b_M_cut 3 (some .int) { frames := 1, cells := 0, slots := 0, locals := 26 } D cI [] sz [(h, .inr (10, oM ad nm mk rd cs)), (ad 1, .inl (cI, 6, .inl (nA dm))), (ad 2, .inl (cI, 36, .inl rs)), (ad 3, .inl (cI, 36, .inl rn))] [.ref h, .int x, .int y] (fun (r : Int32) (u : ctT) => (r, u) = cutS dm rs rn (oCut nm x y)) (fun u : ctT => [(h, .inr (10, oM ad nm mk rd cs)), (ad 1, .inl (cI, 6, .inl (nA u.1))), (ad 2, .inl (cI, 36, .inl u.2.1)), (ad 3, .inl (cI, 36, .inl u.2.2))]) := by
  refine enter (by decide) (Nat.le_of_ble_eq_true rfl) ?_
  intro p e s m below meth c A ls C0 hr hlk hnm hK hsz hA hAe hP hD hS hl
  have hx := C0.1
  have hb := C0.2.1
  have hl : lv_has ls 3 [(0, .ref h), (1, .int x), (2, .int y)] := hl
  refine lv_iload_n hx hb d_M_cut_0 rfl (lv_at hl 1 rfl) ?_
  refine lv_iconst (v := (nI 0)) hx hb d_M_cut_1 (by decide) ?_
  refine lv_aload_n hx hb d_M_cut_2 rfl (lv_at hl 0 rfl) ?_
  refine r_get C0 hK hP 0 rfl rfl i_M 0 (by decide) wt_663 (fun _ h => h) rfl d_M_cut_3 ?_
  refine lv_iconst (v := (nI 1)) hx hb d_M_cut_6 (by decide) ?_
  refine lv_isub hx hb d_M_cut_7 ?_
  refine call_i (rm := { frames := 0, cells := 0, slots := 0, locals := 0 }) hS hP hD hA (spl_mk (wc := []) (wr := [(h, .inr (10, oM ad nm mk rd cs)), (ad 1, .inl (cI, 6, .inl (nA dm))), (ad 2, .inl (cI, 36, .inl rs)), (ad 3, .inl (cI, 36, .inl rn))]) [] [0, 1, 2, 3] rfl rfl (by decide)) (run_s (n := 3) (As := [.int x, .int (nI 0), .int (nI nm - nI 1)]) (rest := []) C0 (hK.sub [] rfl) (c_M_isIn l D cI s.heap.size x (nI 0) (nI nm - nI 1)) wt_758 wt_4 wt_756 wt_757 (by decide +kernel) ⟨Nat.le_of_ble_eq_true rfl, Nat.le_of_ble_eq_true rfl⟩ rfl hl.1 rfl (Nat.le_of_ble_eq_true rfl) d_M_cut_8 ⟨Nat.le_of_ble_eq_true rfl, Nat.le_of_ble_eq_true rfl⟩) (fun r_8 _u8 H locs hw_8 hP hD hS => ?_)
  have hP : va_P D cls [(h, .inr (10, oM ad nm mk rd cs)), (ad 1, .inl (cI, 6, .inl (nA dm))), (ad 2, .inl (cI, 36, .inl rs)), (ad 3, .inl (cI, 36, .inl rn))] H := hP
  have hD : va_D A [(h, .inr (10, oM ad nm mk rd cs)), (ad 1, .inl (cI, 6, .inl (nA dm))), (ad 2, .inl (cI, 36, .inl rs)), (ad 3, .inl (cI, 36, .inl rn))] := hD
  subst hw_8
  refine y_eq (tgt := 24) hx hb d_M_cut_11 (by decide) (fun c_11 => ?_) (fun c_11 => ?_)
  · have hij := ix_f (by omega) c_11
    refine lv_bipush (v := (-2)) hx hb d_M_cut_24 (by decide) ?_
    exact ret_i C0 hr hlk hAe hS (dm, rs, rn) (by unfold oCut; first | (rw [hij]; show _ = cutS _ _ _ ((ixN y 64).map _); rw [hiw]; rfl) | (rw [hij]; rfl)) hP hD rfl (Nat.le_of_ble_eq_true rfl) (Nat.le_of_ble_eq_true rfl) d_M_cut_26
  · obtain ⟨j, hjj, hxj, hij⟩ := ix_t (by omega) c_11
    have hl : lv_has ls 3 [(0, .ref h), (1, .int (nI j)), (2, .int y)] := by rw [← hxj]; exact hl
    refine lv_iload_n hx hb d_M_cut_14 rfl (lv_at hl 2 rfl) ?_
    refine lv_iconst (v := (nI 0)) hx hb d_M_cut_15 (by decide) ?_
    refine lv_bipush (v := (nI 63)) hx hb d_M_cut_16 (by decide) ?_
    refine call_i (rm := { frames := 0, cells := 0, slots := 0, locals := 0 }) hS hP hD hA (spl_mk (wc := []) (wr := [(h, .inr (10, oM ad nm mk rd cs)), (ad 1, .inl (cI, 6, .inl (nA dm))), (ad 2, .inl (cI, 36, .inl rs)), (ad 3, .inl (cI, 36, .inl rn))]) [] [0, 1, 2, 3] rfl rfl (by decide)) (run_s (n := 3) (As := [.int y, .int (nI 0), .int (nI 63)]) (rest := []) C0 (hK.sub [] rfl) (c_M_isIn l D cI H.size y (nI 0) (nI 63)) wt_758 wt_4 wt_756 wt_757 (by decide +kernel) ⟨Nat.le_of_ble_eq_true rfl, Nat.le_of_ble_eq_true rfl⟩ rfl hl.1 rfl (Nat.le_of_ble_eq_true rfl) d_M_cut_18 ⟨Nat.le_of_ble_eq_true rfl, Nat.le_of_ble_eq_true rfl⟩) (fun r_18 _u18 H locs hw_18 hP hD hS => ?_)
    have hP : va_P D cls [(h, .inr (10, oM ad nm mk rd cs)), (ad 1, .inl (cI, 6, .inl (nA dm))), (ad 2, .inl (cI, 36, .inl rs)), (ad 3, .inl (cI, 36, .inl rn))] H := hP
    have hD : va_D A [(h, .inr (10, oM ad nm mk rd cs)), (ad 1, .inl (cI, 6, .inl (nA dm))), (ad 2, .inl (cI, 36, .inl rs)), (ad 3, .inl (cI, 36, .inl rn))] := hD
    subst hw_18
    refine y_ne (tgt := 27) hx hb d_M_cut_21 (by decide) (fun c_21 => ?_) (fun c_21 => ?_)
    · obtain ⟨w, hjw, hxw, hiw⟩ := ik_t (by decide) c_21
      have hl : lv_has ls 3 [(0, .ref h), (1, .int (nI j)), (2, .int (nI w))] := by rw [← hxw]; exact hl
      refine lv_aload_n hx hb d_M_cut_27 rfl (lv_at hl 0 rfl) ?_
      refine r_get C0 hK hP 0 rfl rfl i_M 1 (by decide) wt_664 (fun _ h => h) rfl d_M_cut_28 ?_
      refine lv_iload_n hx hb d_M_cut_31 rfl (lv_at hl 1 rfl) ?_
      refine r_ald C0 hK hP 1 rfl (by omega) (by decide) d_M_cut_32 ?_
      refine t_eq (y := (nI (dm j))) rfl ?_
      refine lv_iload_n hx hb d_M_cut_33 rfl (lv_at hl 2 rfl) ?_
      refine lv_iand hx hb d_M_cut_34 ?_
      refine t_eq (y := (nI ((dm j) &&& w))) (m_and _ _) ?_
      refine z_ne (tgt := 41) hx hb (Nat.lt_of_le_of_lt Nat.and_le_left (Nat.lt_trans (hdm _) (by decide))) d_M_cut_35 (by decide) (fun c_35 => ?_) (fun c_35 => ?_)
      · refine lv_aload_n hx hb d_M_cut_41 rfl (lv_at hl 0 rfl) ?_
        refine lv_iload_n hx hb d_M_cut_42 rfl (lv_at hl 1 rfl) ?_
        refine lv_aload_n hx hb d_M_cut_43 rfl (lv_at hl 0 rfl) ?_
        refine r_get C0 hK hP 0 rfl rfl i_M 1 (by decide) wt_664 (fun _ h => h) rfl d_M_cut_44 ?_
        refine lv_iload_n hx hb d_M_cut_47 rfl (lv_at hl 1 rfl) ?_
        refine r_ald C0 hK hP 1 rfl (by omega) (by decide) d_M_cut_48 ?_
        refine t_eq (y := (nI (dm j))) rfl ?_
        refine lv_iload_n hx hb d_M_cut_49 rfl (lv_at hl 2 rfl) ?_
        refine lv_iconst (v := (-1)) hx hb d_M_cut_50 (by decide) ?_
        refine lv_ixor hx hb d_M_cut_51 ?_
        refine lv_iand hx hb d_M_cut_52 ?_
        refine t_eq (y := nI (dif (dm j) w)) (dif_i _ (hdm j) _ hjw) ?_
        refine lv_bipush (v := (nI 10)) hx hb d_M_cut_53 (by decide) ?_
        refine lv_iconst (v := (nI 0)) hx hb d_M_cut_55 (by decide) ?_
        refine call_i (rm := { frames := 0, cells := 0, slots := 0, locals := 0 }) hS hP hD hA (spl_mk (wc := [(h, .inr (10, oM ad nm mk rd cs)), (ad 1, .inl (cI, 6, .inl (nA dm))), (ad 2, .inl (cI, 36, .inl rs)), (ad 3, .inl (cI, 36, .inl rn))]) (wr := []) [0, 1, 2, 3] [] rfl rfl (by decide)) (run_v (n := 4) (As := [.int (nI j), .int (nI (dif (dm j) w)), .int (nI 10), .int (nI 0)]) (rest := []) (q0 := 0) (ci := 10) C0 (hK.sub [] rfl) (c_M_take l D cI H.size h ad nm mk rd cs dm rs rn j (dif (dm j) w) (nI 10) (nI 0) (by omega) (dif_lt (hdm j)) (hdm j)) rfl rfl wt_821 wt_4 wt_818 wt_820 wp_21 (by decide +kernel) ⟨Nat.le_of_ble_eq_true rfl, Nat.le_of_ble_eq_true rfl⟩ rfl hl.1 rfl (Nat.le_of_ble_eq_true rfl) d_M_cut_56 ⟨Nat.le_of_ble_eq_true rfl, Nat.le_of_ble_eq_true rfl⟩) (fun r_56 _u56 H locs hw_56 hP hD hS => ?_)
        have hP : va_P D cls [(h, .inr (10, oM ad nm mk rd cs)), (ad 1, .inl (cI, 6, .inl (nA (va_up dm j (dif (dm j) (dif (dm j) w)))))), (ad 2, .inl (cI, 36, .inl (mkS rs (6 * j) (dif (dm j) w) (nI 10) 6))), (ad 3, .inl (cI, 36, .inl (mkS rn (6 * j) (dif (dm j) w) (nI 0) 6)))] H := hP
        have hD : va_D A [(h, .inr (10, oM ad nm mk rd cs)), (ad 1, .inl (cI, 6, .inl (nA (va_up dm j (dif (dm j) (dif (dm j) w)))))), (ad 2, .inl (cI, 36, .inl (mkS rs (6 * j) (dif (dm j) w) (nI 10) 6))), (ad 3, .inl (cI, 36, .inl (mkS rn (6 * j) (dif (dm j) w) (nI 0) 6)))] := hD
        subst hw_56
        exact ret_i C0 hr hlk hAe hS (va_up dm j (dif (dm j) (dif (dm j) w)), mkS rs (6 * j) (dif (dm j) w) (nI 10) 6, mkS rn (6 * j) (dif (dm j) w) (nI 0) 6) (by unfold oCut; rw [hij]; show _ = cutS _ _ _ ((ixN y 64).map _); rw [hiw]; show _ = (if _ then _ else _); rw [if_neg c_35]) hP hD rfl (Nat.le_of_ble_eq_true rfl) (Nat.le_of_ble_eq_true rfl) d_M_cut_59
      · refine lv_bipush (v := (-4)) hx hb d_M_cut_38 (by decide) ?_
        exact ret_i C0 hr hlk hAe hS (dm, rs, rn) (by unfold oCut; rw [hij]; show _ = cutS _ _ _ ((ixN y 64).map _); rw [hiw]; show _ = (if _ then _ else _); rw [if_pos c_35]) hP hD rfl (Nat.le_of_ble_eq_true rfl) (Nat.le_of_ble_eq_true rfl) d_M_cut_40
    · have hiw := ik_f (by decide) c_21
      refine lv_bipush (v := (-2)) hx hb d_M_cut_24 (by decide) ?_
      exact ret_i C0 hr hlk hAe hS (dm, rs, rn) (by unfold oCut; first | (rw [hij]; show _ = cutS _ _ _ ((ixN y 64).map _); rw [hiw]; rfl) | (rw [hij]; rfl)) hP hD rfl (Nat.le_of_ble_eq_true rfl) (Nat.le_of_ble_eq_true rfl) d_M_cut_26
