section NR8
variable {p : Program} {l : Launch} {e : Env} {R : Room} {s : State} {m : MethodId} {args : Array Value} {below : List Frame} {meth : Method} {c : Code} {H : Heap} {locs : List Loc} {cells slots : Nat} {Q : State → Prop}
variable {cc : ByteArray} {pc nL : Nat} {ls : Array Slot} {rest : List Value} {own : String} {D : va_G} {cI cA : ClassId} {tys : List (ClassId × FieldType)} {ws : va_W} {A : Nat → Prop} {a v : Nat}
theorem r_astqC (C0 : CallFix p m c cc nL s args gt own) (hK : KK D cI tys s) (hP : va_P D cls ws H) (hD : va_D A ws) (hS : va_S A s.heap H locs) (q0 t0 qk : Nat) {n i ci : Nat} {vs : List Value} {f : Nat → Option Nat} (ha : ws[q0]? = some (a, .inl (cA, n, .inr (.inr (.inr (.inr f)))))) (ht : ((cI, .int) :: tys)[t0]? = some (cA, .object "TableChoices$Constraint")) (hv : ws[qk]? = some (v, .inr (ci, vs))) (hci : isC ci) (hi : i < n) (hn : n < 2147483648) (hd : decode cc pc = .ok (.aastore, 1))
    (kk : ∀ (H1 : Heap) (locs1 : List Loc), va_P D cls (ws.set q0 (a, .inl (cA, n, .inr (.inr (.inr (.inr (va_up f i (some v)))))))) H1 → va_D A (ws.set q0 (a, .inl (cA, n, .inr (.inr (.inr (.inr (va_up f i (some v)))))))) → va_S A s.heap H1 locs1 → W p l e R s m args below meth c H1 locs1 cells slots Q (F0 m (pc + 1) ls rest)) : W p l e R s m args below meth c H locs cells slots Q (F0 m pc ls (.ref v :: .int (nI i) :: .ref a :: rest)) := by
  have k2 : ∀ (H1 : Heap) (locs1 : List Loc), va_P D cls (ws.set q0 (a, .inl (cA, n, .inr (.inr (.inr (.inr (va_up f (nI i).toNatClampNeg (some v)))))))) H1 → va_D A (ws.set q0 (a, .inl (cA, n, .inr (.inr (.inr (.inr (va_up f (nI i).toNatClampNeg (some v)))))))) → va_S A s.heap H1 locs1 → W p l e R s m args below meth c H1 locs1 cells slots Q (F0 m (pc + 1) ls rest) := fun H1 l1 h1 h2 h3 => by
    rw [nI_clamp (Nat.lt_trans hi hn)] at h1 h2
    exact kk H1 l1 h1 h2 h3
  unfold isC at hci
  rcases (show ci = 3 ∨ ci = 4 ∨ ci = 5 ∨ ci = 6 ∨ ci = 7 ∨ ci = 8 ∨ ci = 9 by omega) with rfl | rfl | rfl | rfl | rfl | rfl | rfl
  · exact va_astqO (ci := 3) C0.1 C0.2.1 hK.1 hP hD hS q0 t0 qk ha ht (hK.2.1.1 _ wn_921) hv rfl (vp_in_nI hi hn) hd k2
  · exact va_astqO (ci := 4) C0.1 C0.2.1 hK.1 hP hD hS q0 t0 qk ha ht (hK.2.1.1 _ wn_918) hv rfl (vp_in_nI hi hn) hd k2
  · exact va_astqO (ci := 5) C0.1 C0.2.1 hK.1 hP hD hS q0 t0 qk ha ht (hK.2.1.1 _ wn_916) hv rfl (vp_in_nI hi hn) hd k2
  · exact va_astqO (ci := 6) C0.1 C0.2.1 hK.1 hP hD hS q0 t0 qk ha ht (hK.2.1.1 _ wn_919) hv rfl (vp_in_nI hi hn) hd k2
  · exact va_astqO (ci := 7) C0.1 C0.2.1 hK.1 hP hD hS q0 t0 qk ha ht (hK.2.1.1 _ wn_920) hv rfl (vp_in_nI hi hn) hd k2
  · exact va_astqO (ci := 8) C0.1 C0.2.1 hK.1 hP hD hS q0 t0 qk ha ht (hK.2.1.1 _ wn_922) hv rfl (vp_in_nI hi hn) hd k2
  · exact va_astqO (ci := 9) C0.1 C0.2.1 hK.1 hP hD hS q0 t0 qk ha ht (hK.2.1.1 _ wn_917) hv rfl (vp_in_nI hi hn) hd k2
end NR8
/-- the cells of a new constraint, if there is one -/
def nwc (cI : ClassId) (o : Option KD) : va_W := o.elim [] (kc cI)
def refI (g : Bool) (cs : Nat) : Int32 := if g = true then (if cs = 10 then -3 else 0) else -2
theorem refI_0 {g : Bool} {cs : Nat} (h : refI g cs = 0) : g = true ∧ ¬ cs = 10 := by
  unfold refI at h
  cases g with
  | false => rw [if_neg (by decide)] at h; exact absurd h (by decide)
  | true =>
    rw [if_pos rfl] at h
    refine ⟨rfl, fun q => ?_⟩
    rw [if_pos q] at h
    exact absurd h (by decide)
abbrev adT : Type := Nat × (Nat → Option Nat) × Option KD
def adK (kf : Nat → Option Nat) (cs : Nat) (o : Option newT) (ad a1 a2 : Nat) : Int32 × adT := match o with
  | none => (-2, cs, kf, none)
  | some t => if cs = 10 then (-3, cs, kf, none) else (nI cs, cs + 1, va_up kf cs (some ad), some (kNw t.1 t.2.1 t.2.2.1 t.2.2.2.1 t.2.2.2.2.1 t.2.2.2.2.2 ad a1 a2))
theorem adK_r {kf : Nat → Option Nat} {cs ad a1 a2 : Nat} {g : Bool} {o : Option newT} (h0 : g = false → o = none) (h1 : g = true → ∃ t, o = some t) (h : ¬ refI g cs = 0) : (refI g cs, cs, kf, (none : Option KD)) = adK kf cs o ad a1 a2 := by
  cases g with
  | false => rw [h0 rfl]; rfl
  | true =>
    obtain ⟨t, e⟩ := h1 rfl
    rw [e]
    unfold refI at h ⊢
    rw [if_pos rfl] at h ⊢
    by_cases q : cs = 10
    · rw [if_pos q]
      show _ = (if _ then _ else _)
      rw [if_pos q]
    · rw [if_neg q] at h
      exact absurd rfl h
theorem bnd_t {x y : Int32} {Z : Nat} (hZ : Z < 1000) (h : ((decide (nI 0 ≤ x) && decide (x ≤ nI Z)) && (decide (x ≤ y) && decide (y ≤ nI Z))) = true) : ∃ a b, a ≤ b ∧ b ≤ Z ∧ x = nI a ∧ y = nI b ∧ ixN x (Z + 1) = some a ∧ ixN y (Z + 1) = some b := by
  rw [Bool.and_eq_true] at h
  obtain ⟨a, h1, h2, h3⟩ := ik_t (by omega) h.1
  obtain ⟨b, h4, h5, h6⟩ := il_t h2 (by omega) (by omega) h.2
  exact ⟨a, b, h4.1, by omega, h2, h5, h3, h6⟩
theorem bnd_f {x y : Int32} {Z : Nat} (hZ : Z < 1000) (h : ((decide (nI 0 ≤ x) && decide (x ≤ nI Z)) && (decide (x ≤ y) && decide (y ≤ nI Z))) = false) : ixN x (Z + 1) = none ∨ ∃ a, ixN x (Z + 1) = some a ∧ (ixN y (Z + 1) = none ∨ ∃ j, j < a ∧ ixN y (Z + 1) = some j) := by
  cases h1 : (decide (nI 0 ≤ x) && decide (x ≤ nI Z)) with
  | false => exact Or.inl (ik_f (by omega) h1)
  | true =>
    rw [h1, Bool.true_and] at h
    obtain ⟨a, h1, h2, h3⟩ := ik_t (by omega) h1
    exact Or.inr ⟨a, h3, il_f h2 (by omega) (by omega) h⟩
set_option maxHeartbeats 4000000 in
set_option maxRecDepth 100000 in
theorem c_TC_add (l : Launch) (D : va_G) (cI : ClassId) (sz : Nat) (cM : ClassId) (cK : ClassId) (h : Nat) (an : Nat) (am : Nat) (ak : Nat) (ap : Nat) (ac : Nat) (nm : Nat) (cs : Nat) (mk : Nat) (lr : Nat) (kf : Nat → Option Nat) (o : Nat) (ci : Nat) (ex : List Value) (kd : Nat) (mn : Nat) (w : Nat) (ns : Nat) (hn : Nat) (hq : Nat) (hcs : cs ≤ 10) (hci : isC ci) : MetI l y_TC_add b_TC_add 2 (some .int) { frames := 0, cells := 0, slots := 0, locals := 0 } D cI (tyT cM cK) sz [(h, .inr (0, [.ref an, .ref am, .ref ak, .ref ap, .ref ac, .int (nI nm), .int (nI cs), .int (nI mk), .int (nI lr)])), (ak, .inl (cK, 10, .inr (.inr (.inr (.inr kf))))), (o, .inr (ci, .int (nI kd) :: .int (nI mn) :: .int (nI w) :: .int (nI ns) :: .int (nI hn) :: .int (nI hq) :: ex))] [.ref h, .ref o] (fun (r : Int32) (u : Nat × (Nat → Option Nat)) => (cs = 10 ∧ r = -3 ∧ u = (cs, kf)) ∨ (¬ cs = 10 ∧ r = nI cs ∧ u = (cs + 1, va_up kf cs (some o)))) (fun u : Nat × (Nat → Option Nat) => [(h, .inr (0, [.ref an, .ref am, .ref ak, .ref ap, .ref ac, .int (nI nm), .int (nI u.1), .int (nI mk), .int (nI lr)])), (ak, .inl (cK, 10, .inr (.inr (.inr (.inr u.2))))), (o, .inr (ci, .int (nI kd) :: .int (nI mn) :: .int (nI w) :: .int (nI ns) :: .int (nI hn) :: .int (nI hq) :: ex))]) := by
  refine enter (by decide) (Nat.le_of_ble_eq_true rfl) ?_
  intro p e s m below meth c A ls C0 hr hlk hnm hK hsz hA hAe hP hD hS hl
  have hx := C0.1
  have hb := C0.2.1
  have hl : lv_has ls 2 [(0, .ref h), (1, .ref o)] := hl
  refine lv_aload_n hx hb d_TC_add_0 rfl (lv_at hl 0 rfl) ?_
  refine r_get C0 hK hP 0 rfl rfl i_TC 6 (by decide) wt_93 (fun _ h => h) rfl d_TC_add_1 ?_
  refine lv_bipush (v := (nI 10)) hx hb d_TC_add_4 (by decide) ?_
  refine b_lt (tgt := 12) hx hb (by omega) (by decide) d_TC_add_6 (by decide) (fun c_6 => ?_) (fun c_6 => ?_)
  · refine lv_aload_n hx hb d_TC_add_12 rfl (lv_at hl 0 rfl) ?_
    refine r_get C0 hK hP 0 rfl rfl i_TC 2 (by decide) wt_89 (fun _ h => h) rfl d_TC_add_13 ?_
    refine lv_aload_n hx hb d_TC_add_16 rfl (lv_at hl 0 rfl) ?_
    refine r_get C0 hK hP 0 rfl rfl i_TC 6 (by decide) wt_93 (fun _ h => h) rfl d_TC_add_17 ?_
    refine lv_aload_n hx hb d_TC_add_20 rfl (lv_at hl 1 rfl) ?_
    refine r_astqC C0 hK hP hD hS 1 2 2 rfl rfl rfl hci (by omega) (by decide) d_TC_add_21 (fun H locs hP hD hS => ?_)
    have hP : va_P D cls [(h, .inr (0, [.ref an, .ref am, .ref ak, .ref ap, .ref ac, .int (nI nm), .int (nI cs), .int (nI mk), .int (nI lr)])), (ak, .inl (cK, 10, .inr (.inr (.inr (.inr (va_up kf cs (some o))))))), (o, .inr (ci, .int (nI kd) :: .int (nI mn) :: .int (nI w) :: .int (nI ns) :: .int (nI hn) :: .int (nI hq) :: ex))] H := hP
    have hD : va_D A [(h, .inr (0, [.ref an, .ref am, .ref ak, .ref ap, .ref ac, .int (nI nm), .int (nI cs), .int (nI mk), .int (nI lr)])), (ak, .inl (cK, 10, .inr (.inr (.inr (.inr (va_up kf cs (some o))))))), (o, .inr (ci, .int (nI kd) :: .int (nI mn) :: .int (nI w) :: .int (nI ns) :: .int (nI hn) :: .int (nI hq) :: ex))] := hD
    refine lv_aload_n hx hb d_TC_add_22 rfl (lv_at hl 0 rfl) ?_
    refine lv_dup hx hb d_TC_add_23 rfl ?_
    refine r_get C0 hK hP 0 rfl rfl i_TC 6 (by decide) wt_93 (fun _ h => h) rfl d_TC_add_24 ?_
    refine lv_iconst (v := (nI 1)) hx hb d_TC_add_27 (by decide) ?_
    refine lv_iadd hx hb d_TC_add_28 ?_
    refine t_eq (y := (nI (cs + 1))) (nI_add _ _) ?_
    refine r_put C0 hK hP hD hS 0 rfl rfl i_TC t_TC k_TC n_TC 6 (by decide) wt_93 (fun _ h => h) rfl rfl rfl (Nat.le_of_ble_eq_true rfl) d_TC_add_29 (fun H locs hP hD hS => ?_)
    have hP : va_P D cls [(h, .inr (0, [.ref an, .ref am, .ref ak, .ref ap, .ref ac, .int (nI nm), .int (nI (cs + 1)), .int (nI mk), .int (nI lr)])), (ak, .inl (cK, 10, .inr (.inr (.inr (.inr (va_up kf cs (some o))))))), (o, .inr (ci, .int (nI kd) :: .int (nI mn) :: .int (nI w) :: .int (nI ns) :: .int (nI hn) :: .int (nI hq) :: ex))] H := hP
    have hD : va_D A [(h, .inr (0, [.ref an, .ref am, .ref ak, .ref ap, .ref ac, .int (nI nm), .int (nI (cs + 1)), .int (nI mk), .int (nI lr)])), (ak, .inl (cK, 10, .inr (.inr (.inr (.inr (va_up kf cs (some o))))))), (o, .inr (ci, .int (nI kd) :: .int (nI mn) :: .int (nI w) :: .int (nI ns) :: .int (nI hn) :: .int (nI hq) :: ex))] := hD
    refine lv_aload_n hx hb d_TC_add_32 rfl (lv_at hl 0 rfl) ?_
    refine r_get C0 hK hP 0 rfl rfl i_TC 6 (by decide) wt_93 (fun _ h => h) rfl d_TC_add_33 ?_
    refine lv_iconst (v := (nI 1)) hx hb d_TC_add_36 (by decide) ?_
    refine lv_isub hx hb d_TC_add_37 ?_
    refine t_eq (y := (nI ((cs + 1) - 1))) (pk_sub (by omega)) ?_
    exact ret_i C0 hr hlk hAe hS (cs + 1, va_up kf cs (some o)) (Or.inr ⟨by omega, rfl, rfl⟩) hP hD rfl (Nat.le_of_ble_eq_true rfl) (Nat.le_of_ble_eq_true rfl) d_TC_add_38
  · refine lv_bipush (v := (-3)) hx hb d_TC_add_9 (by decide) ?_
    exact ret_i C0 hr hlk hAe hS (cs, kf) (Or.inl ⟨by omega, rfl, rfl⟩) hP hD rfl (Nat.le_of_ble_eq_true rfl) (Nat.le_of_ble_eq_true rfl) d_TC_add_11
set_option maxHeartbeats 4000000 in
set_option maxRecDepth 100000 in
theorem c_TC_table (l : Launch) (D : va_G) (cI : ClassId) (sz : Nat) (cM : ClassId) (cK : ClassId) (h : Nat) (an : Nat) (am : Nat) (ak : Nat) (ap : Nat) (ac : Nat) (nm : Nat) (cs : Nat) (mk : Nat) (lr : Nat) (kf : Nat → Option Nat) (x : Int32) (y : Int32) (hcs : cs ≤ 10) (hn6 : nm ≤ 6) : MetI l y_TC_table b_TC_table 4 (some .int) { frames := 3, cells := 2, slots := 44, locals := 69 } D cI (tyT cM cK) sz [(h, .inr (0, [.ref an, .ref am, .ref ak, .ref ap, .ref ac, .int (nI nm), .int (nI cs), .int (nI mk), .int (nI lr)])), (ak, .inl (cK, 10, .inr (.inr (.inr (.inr kf)))))] [.ref h, .int x, .int y] (fun (r : Int32) (u : adT) => ∃ ad a1 a2, (r, u) = adK kf cs (oTa nm x y) ad a1 a2) (fun u : adT => ([(h, .inr (0, [.ref an, .ref am, .ref ak, .ref ap, .ref ac, .int (nI nm), .int (nI u.1), .int (nI mk), .int (nI lr)])), (ak, .inl (cK, 10, .inr (.inr (.inr (.inr u.2.1)))))] ++ (nwc cI u.2.2))) := by
  refine enter (by decide) (Nat.le_of_ble_eq_true rfl) ?_
  intro p e s m below meth c A ls C0 hr hlk hnm hK hsz hA hAe hP hD hS hl
  have hx := C0.1
  have hb := C0.2.1
  have hl : lv_has ls 4 [(0, .ref h), (1, .int x), (2, .int y)] := hl
  refine lv_aload_n hx hb d_TC_table_0 rfl (lv_at hl 0 rfl) ?_
  refine lv_aload_n hx hb d_TC_table_1 rfl (lv_at hl 0 rfl) ?_
  refine lv_iload_n hx hb d_TC_table_2 rfl (lv_at hl 1 rfl) ?_
  refine lv_iload_n hx hb d_TC_table_3 rfl (lv_at hl 2 rfl) ?_
  refine call_i (rm := { frames := 2, cells := 0, slots := 0, locals := 43 }) hS hP hD hA (spl_mk (wc := [(h, .inr (0, [.ref an, .ref am, .ref ak, .ref ap, .ref ac, .int (nI nm), .int (nI cs), .int (nI mk), .int (nI lr)]))]) (wr := [(ak, .inl (cK, 10, .inr (.inr (.inr (.inr kf)))))]) [0] [1] rfl rfl (by decide)) (run_v (n := 2) (As := [.int x, .int y]) (rest := [.ref h]) (q0 := 0) (ci := 0) C0 (hK.sub [] rfl) (c_TC_isRow l D cI s.heap.size h an am ak ap ac nm cs mk lr x y hn6) rfl rfl wt_137 wt_1 wt_134 wt_136 wp_0 (by decide +kernel) ⟨Nat.le_of_ble_eq_true rfl, Nat.le_of_ble_eq_true rfl⟩ rfl hl.1 rfl (Nat.le_of_ble_eq_true rfl) d_TC_table_4 ⟨Nat.le_of_ble_eq_true rfl, Nat.le_of_ble_eq_true rfl⟩) (fun r_4 _u4 H locs hw_4 hP hD hS => ?_)
  have hP : va_P D cls [(ak, .inl (cK, 10, .inr (.inr (.inr (.inr kf))))), (h, .inr (0, [.ref an, .ref am, .ref ak, .ref ap, .ref ac, .int (nI nm), .int (nI cs), .int (nI mk), .int (nI lr)]))] H := hP
  have hD : va_D A [(ak, .inl (cK, 10, .inr (.inr (.inr (.inr kf))))), (h, .inr (0, [.ref an, .ref am, .ref ak, .ref ap, .ref ac, .int (nI nm), .int (nI cs), .int (nI mk), .int (nI lr)]))] := hD
  subst hw_4
  refine call_i (rm := { frames := 0, cells := 0, slots := 0, locals := 0 }) hS hP hD hA (spl_mk (wc := [(h, .inr (0, [.ref an, .ref am, .ref ak, .ref ap, .ref ac, .int (nI nm), .int (nI cs), .int (nI mk), .int (nI lr)]))]) (wr := [(ak, .inl (cK, 10, .inr (.inr (.inr (.inr kf)))))]) [1] [0] rfl rfl (by decide)) (run_v (n := 1) (As := [.int (bI (rowB nm x y))]) (rest := []) (q0 := 0) (ci := 0) C0 (hK.sub [] rfl) (c_TC_refusalOfNew l D cI H.size h an am ak ap ac nm cs mk lr (rowB nm x y) hcs) rfl rfl wt_151 wt_1 wt_148 wt_150 wp_2 (by decide +kernel) ⟨Nat.le_of_ble_eq_true rfl, Nat.le_of_ble_eq_true rfl⟩ rfl hl.1 rfl (Nat.le_of_ble_eq_true rfl) d_TC_table_7 ⟨Nat.le_of_ble_eq_true rfl, Nat.le_of_ble_eq_true rfl⟩) (fun r_7 _u7 H locs hw_7 hP hD hS => ?_)
  have hP : va_P D cls [(ak, .inl (cK, 10, .inr (.inr (.inr (.inr kf))))), (h, .inr (0, [.ref an, .ref am, .ref ak, .ref ap, .ref ac, .int (nI nm), .int (nI cs), .int (nI mk), .int (nI lr)]))] H := hP
  have hD : va_D A [(ak, .inl (cK, 10, .inr (.inr (.inr (.inr kf))))), (h, .inr (0, [.ref an, .ref am, .ref ak, .ref ap, .ref ac, .int (nI nm), .int (nI cs), .int (nI mk), .int (nI lr)]))] := hD
  subst hw_7
  refine t_eq (y := refI (rowB nm x y) cs) rfl ?_
  refine lv_istore_n (lv' := [(3, .int (refI (rowB nm x y) cs)), (0, .ref h), (1, .int x), (2, .int y)]) hx hb d_TC_table_10 rfl hl (by decide) rfl (fun ls hl => ?_)
  refine lv_iload_n hx hb d_TC_table_11 rfl (lv_at hl 0 rfl) ?_
  refine lv_if_eq (tgt := 19) hx hb d_TC_table_12 (by decide) (fun c_12 => ?_) (fun c_12 => ?_)
  · obtain ⟨hg, hc10⟩ := refI_0 c_12
    obtain ⟨q, w, hq, hxq, hyw, hwq, hw18, hrw, hro⟩ := rowO_s hg
    have hl : lv_has ls 4 [(3, .int (refI (rowB nm x y) cs)), (0, .ref h), (1, .int (nI q)), (2, .int y)] := by rw [← hxq]; exact hl
    have hl : lv_has ls 4 [(3, .int (refI (rowB nm x y) cs)), (0, .ref h), (1, .int (nI q)), (2, .int (nI w))] := by rw [← hyw]; exact hl
    have hoc : oTa nm x y = some (0, q, w, 0, 0, 0) := by unfold oTa; rw [hro]; rfl
    refine lv_aload_n hx hb d_TC_table_19 rfl (lv_at hl 1 rfl) ?_
    refine r_new C0 hK hP hD hS hA (ci := 3) rfl i_Ta t_Ta k_Ta wt_152 wt_153 wt_6 [.int (nI 0), .int (nI 0), .int (nI 0), .int (nI 0), .int (nI 0), .int (nI 0), .null, .int (nI 0)] (fun j hj => by rcases (show j = 0 ∨ j = 1 ∨ j = 2 ∨ j = 3 ∨ j = 4 ∨ j = 5 ∨ j = 6 ∨ j = 7 by omega) with rfl | rfl | rfl | rfl | rfl | rfl | rfl | rfl <;> rfl) (Nat.le_of_ble_eq_true rfl) (Nat.le_of_ble_eq_true rfl) d_TC_table_20 (fun q20 H hP hD hS => ?_)
    have hP : va_P D cls [(ak, .inl (cK, 10, .inr (.inr (.inr (.inr kf))))), (h, .inr (0, [.ref an, .ref am, .ref ak, .ref ap, .ref ac, .int (nI nm), .int (nI cs), .int (nI mk), .int (nI lr)])), (q20, .inr (3, [.int (nI 0), .int (nI 0), .int (nI 0), .int (nI 0), .int (nI 0), .int (nI 0), .null, .int (nI 0)]))] H := hP
    have hD : va_D A [(ak, .inl (cK, 10, .inr (.inr (.inr (.inr kf))))), (h, .inr (0, [.ref an, .ref am, .ref ak, .ref ap, .ref ac, .int (nI nm), .int (nI cs), .int (nI mk), .int (nI lr)])), (q20, .inr (3, [.int (nI 0), .int (nI 0), .int (nI 0), .int (nI 0), .int (nI 0), .int (nI 0), .null, .int (nI 0)]))] := hD
    refine W.widen (k := 1) (n := 8) (Nat.le_of_ble_eq_true rfl) (Nat.le_of_ble_eq_true rfl) ?_
    refine lv_dup hx hb d_TC_table_23 rfl ?_
    refine lv_iload_n hx hb d_TC_table_24 rfl (lv_at hl 2 rfl) ?_
    refine lv_iload_n hx hb d_TC_table_25 rfl (lv_at hl 3 rfl) ?_
    refine call_v (rm := { frames := 2, cells := 1, slots := 36, locals := 47 }) hS hP hD hA (spl_mk (wc := [(q20, .inr (3, [.int (nI 0), .int (nI 0), .int (nI 0), .int (nI 0), .int (nI 0), .int (nI 0), .null, .int (nI 0)]))]) (wr := [(ak, .inl (cK, 10, .inr (.inr (.inr (.inr kf))))), (h, .inr (0, [.ref an, .ref am, .ref ak, .ref ap, .ref ac, .int (nI nm), .int (nI cs), .int (nI mk), .int (nI lr)]))]) [2] [0, 1] rfl rfl (by decide)) (run_I (n := 2) (As := [.int (nI q), .int (nI w)]) (rest := [.ref q20, .ref h]) C0 (hK.sub [] rfl) (c_Ta_init l D cI H.size q20 q w hq.2 (by omega)) rfl wt_156 wt_6 wt_154 wt_155 (by decide +kernel) ⟨Nat.le_of_ble_eq_true rfl, Nat.le_of_ble_eq_true rfl⟩ rfl hl.1 rfl (Nat.le_of_ble_eq_true rfl) d_TC_table_26 ⟨Nat.le_of_ble_eq_true rfl, Nat.le_of_ble_eq_true rfl⟩) (fun u_26 H locs hw_26 hP hD hS => ?_)
    refine W.widen (k := 2) (n := 44) (Nat.le_of_ble_eq_true rfl) (Nat.le_of_ble_eq_true rfl) ?_
    have hP : va_P D cls [(ak, .inl (cK, 10, .inr (.inr (.inr (.inr kf))))), (h, .inr (0, [.ref an, .ref am, .ref ak, .ref ap, .ref ac, .int (nI nm), .int (nI cs), .int (nI mk), .int (nI lr)])), (q20, .inr (3, [.int (nI 0), .int (nI q), .int (nI w), .int (nI (nsF w q)), .int (nI (dgt w (hpF w q))), .int (nI (hpF w q)), .ref u_26, .int (nI 0)])), (u_26, .inl (cI, 36, .inl (nA (fun _ => 0))))] H := hP
    have hD : va_D A [(ak, .inl (cK, 10, .inr (.inr (.inr (.inr kf))))), (h, .inr (0, [.ref an, .ref am, .ref ak, .ref ap, .ref ac, .int (nI nm), .int (nI cs), .int (nI mk), .int (nI lr)])), (q20, .inr (3, [.int (nI 0), .int (nI q), .int (nI w), .int (nI (nsF w q)), .int (nI (dgt w (hpF w q))), .int (nI (hpF w q)), .ref u_26, .int (nI 0)])), (u_26, .inl (cI, 36, .inl (nA (fun _ => 0))))] := hD
    refine call_i (rm := { frames := 0, cells := 0, slots := 0, locals := 0 }) hS hP hD hA (spl_mk (wc := [(h, .inr (0, [.ref an, .ref am, .ref ak, .ref ap, .ref ac, .int (nI nm), .int (nI cs), .int (nI mk), .int (nI lr)])), (ak, .inl (cK, 10, .inr (.inr (.inr (.inr kf))))), (q20, .inr (3, [.int (nI 0), .int (nI q), .int (nI w), .int (nI (nsF w q)), .int (nI (dgt w (hpF w q))), .int (nI (hpF w q)), .ref u_26, .int (nI 0)]))]) (wr := [(u_26, .inl (cI, 36, .inl (nA (fun _ => 0))))]) [1, 0, 2] [3] rfl rfl (by decide)) (run_v (n := 1) (As := [.ref q20]) (rest := []) (q0 := 0) (ci := 0) C0 hK (c_TC_add l D cI H.size cM cK h an am ak ap ac nm cs mk lr kf q20 3 ([.ref u_26, .int (nI 0)]) 0 q w (nsF w q) (dgt w (hpF w q)) (hpF w q) hcs ⟨by decide, by decide⟩) rfl rfl wt_207 wt_1 wt_204 wt_206 wp_3 (by decide +kernel) ⟨Nat.le_of_ble_eq_true rfl, Nat.le_of_ble_eq_true rfl⟩ rfl hl.1 rfl (Nat.le_of_ble_eq_true rfl) d_TC_table_29 ⟨Nat.le_of_ble_eq_true rfl, Nat.le_of_ble_eq_true rfl⟩) (fun r_29 u_29 H locs hw_29 hP hD hS => ?_)
    have hP : va_P D cls [(u_26, .inl (cI, 36, .inl (nA (fun _ => 0)))), (h, .inr (0, [.ref an, .ref am, .ref ak, .ref ap, .ref ac, .int (nI nm), .int (nI u_29.1), .int (nI mk), .int (nI lr)])), (ak, .inl (cK, 10, .inr (.inr (.inr (.inr u_29.2))))), (q20, .inr (3, [.int (nI 0), .int (nI q), .int (nI w), .int (nI (nsF w q)), .int (nI (dgt w (hpF w q))), .int (nI (hpF w q)), .ref u_26, .int (nI 0)]))] H := hP
    have hD : va_D A [(u_26, .inl (cI, 36, .inl (nA (fun _ => 0)))), (h, .inr (0, [.ref an, .ref am, .ref ak, .ref ap, .ref ac, .int (nI nm), .int (nI u_29.1), .int (nI mk), .int (nI lr)])), (ak, .inl (cK, 10, .inr (.inr (.inr (.inr u_29.2))))), (q20, .inr (3, [.int (nI 0), .int (nI q), .int (nI w), .int (nI (nsF w q)), .int (nI (dgt w (hpF w q))), .int (nI (hpF w q)), .ref u_26, .int (nI 0)]))] := hD
    obtain ⟨-, hra, hua⟩ := hw_29.resolve_left (fun q => hc10 q.1)
    subst hra
    subst hua
    have hP : va_P D cls [(u_26, .inl (cI, 36, .inl (nA (fun _ => 0)))), (h, .inr (0, [.ref an, .ref am, .ref ak, .ref ap, .ref ac, .int (nI nm), .int (nI (cs + 1)), .int (nI mk), .int (nI lr)])), (ak, .inl (cK, 10, .inr (.inr (.inr (.inr (va_up kf cs (some q20))))))), (q20, .inr (3, [.int (nI 0), .int (nI q), .int (nI w), .int (nI (nsF w q)), .int (nI (dgt w (hpF w q))), .int (nI (hpF w q)), .ref u_26, .int (nI 0)]))] H := hP
    have hD : va_D A [(u_26, .inl (cI, 36, .inl (nA (fun _ => 0)))), (h, .inr (0, [.ref an, .ref am, .ref ak, .ref ap, .ref ac, .int (nI nm), .int (nI (cs + 1)), .int (nI mk), .int (nI lr)])), (ak, .inl (cK, 10, .inr (.inr (.inr (.inr (va_up kf cs (some q20))))))), (q20, .inr (3, [.int (nI 0), .int (nI q), .int (nI w), .int (nI (nsF w q)), .int (nI (dgt w (hpF w q))), .int (nI (hpF w q)), .ref u_26, .int (nI 0)]))] := hD
    have hP : va_P D cls [(h, .inr (0, [.ref an, .ref am, .ref ak, .ref ap, .ref ac, .int (nI nm), .int (nI (cs + 1)), .int (nI mk), .int (nI lr)])), (ak, .inl (cK, 10, .inr (.inr (.inr (.inr (va_up kf cs (some q20))))))), (q20, .inr (3, [.int (nI 0), .int (nI q), .int (nI w), .int (nI (nsF w q)), .int (nI (dgt w (hpF w q))), .int (nI (hpF w q)), .ref u_26, .int (nI 0)])), (u_26, .inl (cI, 36, .inl (nA (fun _ => 0))))] H := hP.sub [1, 2, 3, 0] rfl
    have hD : va_D A [(h, .inr (0, [.ref an, .ref am, .ref ak, .ref ap, .ref ac, .int (nI nm), .int (nI (cs + 1)), .int (nI mk), .int (nI lr)])), (ak, .inl (cK, 10, .inr (.inr (.inr (.inr (va_up kf cs (some q20))))))), (q20, .inr (3, [.int (nI 0), .int (nI q), .int (nI w), .int (nI (nsF w q)), .int (nI (dgt w (hpF w q))), .int (nI (hpF w q)), .ref u_26, .int (nI 0)])), (u_26, .inl (cI, 36, .inl (nA (fun _ => 0))))] := hD.sub [1, 2, 3, 0] (by decide) rfl
    exact ret_i C0 hr hlk hAe hS (cs + 1, va_up kf cs (some q20), some (kNw 0 q w 0 0 0 q20 u_26 0)) (⟨q20, u_26, 0, by rw [hoc]; show _ = (if _ then _ else _); rw [if_neg hc10]⟩) hP hD rfl (Nat.le_of_ble_eq_true rfl) (Nat.le_of_ble_eq_true rfl) d_TC_table_32
  · have hP : va_P D cls [(h, .inr (0, [.ref an, .ref am, .ref ak, .ref ap, .ref ac, .int (nI nm), .int (nI cs), .int (nI mk), .int (nI lr)])), (ak, .inl (cK, 10, .inr (.inr (.inr (.inr kf)))))] H := hP.sub [1, 0] rfl
    have hD : va_D A [(h, .inr (0, [.ref an, .ref am, .ref ak, .ref ap, .ref ac, .int (nI nm), .int (nI cs), .int (nI mk), .int (nI lr)])), (ak, .inl (cK, 10, .inr (.inr (.inr (.inr kf)))))] := hD.sub [1, 0] (by decide) rfl
    refine lv_iload_n hx hb d_TC_table_15 rfl (lv_at hl 0 rfl) ?_
    refine lv_goto (tgt := 32) hx hb d_TC_table_16 (by decide) ?_
    exact ret_i C0 hr hlk hAe hS (cs, kf, none) (⟨0, 0, 0, adK_r (g := rowB nm x y) (fun hg => by unfold oTa; rw [rowO_n hg]; rfl) (fun hg => by obtain ⟨q, w, -, -, -, -, -, -, hro⟩ := rowO_s hg; exact ⟨_, by unfold oTa; rw [hro]; rfl⟩) c_12⟩) hP hD rfl (Nat.le_of_ble_eq_true rfl) (Nat.le_of_ble_eq_true rfl) d_TC_table_32
set_option maxHeartbeats 4000000 in
set_option maxRecDepth 100000 in
theorem c_TC_machine (l : Launch) (D : va_G) (cI : ClassId) (sz : Nat) (cM : ClassId) (cK : ClassId) (h : Nat) (an : Nat) (am : Nat) (ak : Nat) (ap : Nat) (ac : Nat) (nm : Nat) (cs : Nat) (mk : Nat) (lr : Nat) (kf : Nat → Option Nat) (x : Int32) (y : Int32) (z : Int32) (v : Int32) (hcs : cs ≤ 10) (hn6 : nm ≤ 6) : MetI l y_TC_machine b_TC_machine 7 (some .int) { frames := 3, cells := 3, slots := 47, locals := 71 } D cI (tyT cM cK) sz [(h, .inr (0, [.ref an, .ref am, .ref ak, .ref ap, .ref ac, .int (nI nm), .int (nI cs), .int (nI mk), .int (nI lr)])), (ak, .inl (cK, 10, .inr (.inr (.inr (.inr kf)))))] [.ref h, .int x, .int y, .int z, .int v] (fun (r : Int32) (u : adT) => ∃ ad a1 a2, (r, u) = adK kf cs (oMa nm x y z v) ad a1 a2) (fun u : adT => ([(h, .inr (0, [.ref an, .ref am, .ref ak, .ref ap, .ref ac, .int (nI nm), .int (nI u.1), .int (nI mk), .int (nI lr)])), (ak, .inl (cK, 10, .inr (.inr (.inr (.inr u.2.1)))))] ++ (nwc cI u.2.2))) := by
  refine enter (by decide) (Nat.le_of_ble_eq_true rfl) ?_
  intro p e s m below meth c A ls C0 hr hlk hnm hK hsz hA hAe hP hD hS hl
  have hx := C0.1
  have hb := C0.2.1
  have hl : lv_has ls 7 [(0, .ref h), (1, .int x), (2, .int y), (3, .int z), (4, .int v)] := hl
  refine lv_aload_n hx hb d_TC_machine_0 rfl (lv_at hl 0 rfl) ?_
  refine lv_iload_n hx hb d_TC_machine_1 rfl (lv_at hl 1 rfl) ?_
  refine lv_iload_n hx hb d_TC_machine_2 rfl (lv_at hl 2 rfl) ?_
  refine call_i (rm := { frames := 2, cells := 0, slots := 0, locals := 43 }) hS hP hD hA (spl_mk (wc := [(h, .inr (0, [.ref an, .ref am, .ref ak, .ref ap, .ref ac, .int (nI nm), .int (nI cs), .int (nI mk), .int (nI lr)]))]) (wr := [(ak, .inl (cK, 10, .inr (.inr (.inr (.inr kf)))))]) [0] [1] rfl rfl (by decide)) (run_v (n := 2) (As := [.int x, .int y]) (rest := []) (q0 := 0) (ci := 0) C0 (hK.sub [] rfl) (c_TC_isRow l D cI s.heap.size h an am ak ap ac nm cs mk lr x y hn6) rfl rfl wt_137 wt_1 wt_134 wt_136 wp_0 (by decide +kernel) ⟨Nat.le_of_ble_eq_true rfl, Nat.le_of_ble_eq_true rfl⟩ rfl hl.1 rfl (Nat.le_of_ble_eq_true rfl) d_TC_machine_3 ⟨Nat.le_of_ble_eq_true rfl, Nat.le_of_ble_eq_true rfl⟩) (fun r_3 _u3 H locs hw_3 hP hD hS => ?_)
  have hP : va_P D cls [(ak, .inl (cK, 10, .inr (.inr (.inr (.inr kf))))), (h, .inr (0, [.ref an, .ref am, .ref ak, .ref ap, .ref ac, .int (nI nm), .int (nI cs), .int (nI mk), .int (nI lr)]))] H := hP
  have hD : va_D A [(ak, .inl (cK, 10, .inr (.inr (.inr (.inr kf))))), (h, .inr (0, [.ref an, .ref am, .ref ak, .ref ap, .ref ac, .int (nI nm), .int (nI cs), .int (nI mk), .int (nI lr)]))] := hD
  subst hw_3
  refine y_eq (tgt := 35) hx hb d_TC_machine_6 (by decide) (fun c_6 => ?_) (fun c_6 => ?_)
  · have hno : rowO nm x y = none := rowO_n c_6
    refine lv_iconst (v := (bI false)) hx hb d_TC_machine_35 (by decide) ?_
    refine lv_istore (lv' := [(5, .int (bI false)), (0, .ref h), (1, .int x), (2, .int y), (3, .int z), (4, .int v)]) hx hb d_TC_machine_36 hl (by decide) rfl (fun ls hl => ?_)
    refine lv_aload_n hx hb d_TC_machine_38 rfl (lv_at hl 1 rfl) ?_
    refine lv_iload hx hb d_TC_machine_39 (lv_at hl 0 rfl) ?_
    refine call_i (rm := { frames := 0, cells := 0, slots := 0, locals := 0 }) hS hP hD hA (spl_mk (wc := [(h, .inr (0, [.ref an, .ref am, .ref ak, .ref ap, .ref ac, .int (nI nm), .int (nI cs), .int (nI mk), .int (nI lr)]))]) (wr := [(ak, .inl (cK, 10, .inr (.inr (.inr (.inr kf)))))]) [1] [0] rfl rfl (by decide)) (run_v (n := 1) (As := [.int (bI false)]) (rest := []) (q0 := 0) (ci := 0) C0 (hK.sub [] rfl) (c_TC_refusalOfNew l D cI H.size h an am ak ap ac nm cs mk lr false hcs) rfl rfl wt_151 wt_1 wt_148 wt_150 wp_2 (by decide +kernel) ⟨Nat.le_of_ble_eq_true rfl, Nat.le_of_ble_eq_true rfl⟩ rfl hl.1 rfl (Nat.le_of_ble_eq_true rfl) d_TC_machine_41 ⟨Nat.le_of_ble_eq_true rfl, Nat.le_of_ble_eq_true rfl⟩) (fun r_41 _u41 H locs hw_41 hP hD hS => ?_)
    have hP : va_P D cls [(ak, .inl (cK, 10, .inr (.inr (.inr (.inr kf))))), (h, .inr (0, [.ref an, .ref am, .ref ak, .ref ap, .ref ac, .int (nI nm), .int (nI cs), .int (nI mk), .int (nI lr)]))] H := hP
    have hD : va_D A [(ak, .inl (cK, 10, .inr (.inr (.inr (.inr kf))))), (h, .inr (0, [.ref an, .ref am, .ref ak, .ref ap, .ref ac, .int (nI nm), .int (nI cs), .int (nI mk), .int (nI lr)]))] := hD
    subst hw_41
    refine t_eq (y := refI false cs) rfl ?_
    refine lv_istore (lv' := [(6, .int (refI false cs)), (5, .int (bI false)), (0, .ref h), (1, .int x), (2, .int y), (3, .int z), (4, .int v)]) hx hb d_TC_machine_44 hl (by decide) rfl (fun ls hl => ?_)
    refine lv_iload hx hb d_TC_machine_46 (lv_at hl 0 rfl) ?_
    refine lv_if_eq (tgt := 56) hx hb d_TC_machine_48 (by decide) (fun c_48 => ?_) (fun c_48 => ?_)
    · exact absurd (refI_0 c_48).1 (by decide)
    · have hP : va_P D cls [(h, .inr (0, [.ref an, .ref am, .ref ak, .ref ap, .ref ac, .int (nI nm), .int (nI cs), .int (nI mk), .int (nI lr)])), (ak, .inl (cK, 10, .inr (.inr (.inr (.inr kf)))))] H := hP.sub [1, 0] rfl
      have hD : va_D A [(h, .inr (0, [.ref an, .ref am, .ref ak, .ref ap, .ref ac, .int (nI nm), .int (nI cs), .int (nI mk), .int (nI lr)])), (ak, .inl (cK, 10, .inr (.inr (.inr (.inr kf)))))] := hD.sub [1, 0] (by decide) rfl
      refine lv_iload hx hb d_TC_machine_51 (lv_at hl 0 rfl) ?_
      refine lv_goto (tgt := 72) hx hb d_TC_machine_53 (by decide) ?_
      exact ret_i C0 hr hlk hAe hS (cs, kf, none) (⟨0, 0, 0, adK_r (fun _ => by unfold oMa; first | (rw [hno]; rfl) | (rw [hro]; show (ixN z 64).bind _ = _; rw [hia]; rfl) | (rw [hro]; show (ixN z 64).bind _ = _; rw [hia]; show (ixN v 1001).map _ = _; rw [hib]; rfl)) (fun q => by cases q) c_48⟩) hP hD rfl (Nat.le_of_ble_eq_true rfl) (Nat.le_of_ble_eq_true rfl) d_TC_machine_72
  · obtain ⟨q, w, hq, hxq, hyw, hwq, hw18, hrw, hro⟩ := rowO_s c_6
    have hl : lv_has ls 7 [(0, .ref h), (1, .int (nI q)), (2, .int y), (3, .int z), (4, .int v)] := by rw [← hxq]; exact hl
    have hl : lv_has ls 7 [(0, .ref h), (1, .int (nI q)), (2, .int (nI w)), (3, .int z), (4, .int v)] := by rw [← hyw]; exact hl
    refine lv_iload_n hx hb d_TC_machine_9 rfl (lv_at hl 3 rfl) ?_
    refine lv_iconst (v := (nI 0)) hx hb d_TC_machine_10 (by decide) ?_
    refine lv_bipush (v := (nI 63)) hx hb d_TC_machine_11 (by decide) ?_
    refine call_i (rm := { frames := 0, cells := 0, slots := 0, locals := 0 }) hS hP hD hA (spl_mk (wc := []) (wr := [(ak, .inl (cK, 10, .inr (.inr (.inr (.inr kf))))), (h, .inr (0, [.ref an, .ref am, .ref ak, .ref ap, .ref ac, .int (nI nm), .int (nI cs), .int (nI mk), .int (nI lr)]))]) [] [0, 1] rfl rfl (by decide)) (run_s (n := 3) (As := [.int z, .int (nI 0), .int (nI 63)]) (rest := []) C0 (hK.sub [] rfl) (c_TC_isIn l D cI H.size z (nI 0) (nI 63)) wt_125 wt_1 wt_123 wt_124 (by decide +kernel) ⟨Nat.le_of_ble_eq_true rfl, Nat.le_of_ble_eq_true rfl⟩ rfl hl.1 rfl (Nat.le_of_ble_eq_true rfl) d_TC_machine_13 ⟨Nat.le_of_ble_eq_true rfl, Nat.le_of_ble_eq_true rfl⟩) (fun r_13 _u13 H locs hw_13 hP hD hS => ?_)
    have hP : va_P D cls [(ak, .inl (cK, 10, .inr (.inr (.inr (.inr kf))))), (h, .inr (0, [.ref an, .ref am, .ref ak, .ref ap, .ref ac, .int (nI nm), .int (nI cs), .int (nI mk), .int (nI lr)]))] H := hP
    have hD : va_D A [(ak, .inl (cK, 10, .inr (.inr (.inr (.inr kf))))), (h, .inr (0, [.ref an, .ref am, .ref ak, .ref ap, .ref ac, .int (nI nm), .int (nI cs), .int (nI mk), .int (nI lr)]))] := hD
    subst hw_13
    refine y_eq (tgt := 35) hx hb d_TC_machine_16 (by decide) (fun c_16 => ?_) (fun c_16 => ?_)
    · have hia := ik_f (by decide) c_16
      refine lv_iconst (v := (bI false)) hx hb d_TC_machine_35 (by decide) ?_
      refine lv_istore (lv' := [(5, .int (bI false)), (0, .ref h), (1, .int (nI q)), (2, .int (nI w)), (3, .int z), (4, .int v)]) hx hb d_TC_machine_36 hl (by decide) rfl (fun ls hl => ?_)
      refine lv_aload_n hx hb d_TC_machine_38 rfl (lv_at hl 1 rfl) ?_
      refine lv_iload hx hb d_TC_machine_39 (lv_at hl 0 rfl) ?_
      refine call_i (rm := { frames := 0, cells := 0, slots := 0, locals := 0 }) hS hP hD hA (spl_mk (wc := [(h, .inr (0, [.ref an, .ref am, .ref ak, .ref ap, .ref ac, .int (nI nm), .int (nI cs), .int (nI mk), .int (nI lr)]))]) (wr := [(ak, .inl (cK, 10, .inr (.inr (.inr (.inr kf)))))]) [1] [0] rfl rfl (by decide)) (run_v (n := 1) (As := [.int (bI false)]) (rest := []) (q0 := 0) (ci := 0) C0 (hK.sub [] rfl) (c_TC_refusalOfNew l D cI H.size h an am ak ap ac nm cs mk lr false hcs) rfl rfl wt_151 wt_1 wt_148 wt_150 wp_2 (by decide +kernel) ⟨Nat.le_of_ble_eq_true rfl, Nat.le_of_ble_eq_true rfl⟩ rfl hl.1 rfl (Nat.le_of_ble_eq_true rfl) d_TC_machine_41 ⟨Nat.le_of_ble_eq_true rfl, Nat.le_of_ble_eq_true rfl⟩) (fun r_41 _u41 H locs hw_41 hP hD hS => ?_)
      have hP : va_P D cls [(ak, .inl (cK, 10, .inr (.inr (.inr (.inr kf))))), (h, .inr (0, [.ref an, .ref am, .ref ak, .ref ap, .ref ac, .int (nI nm), .int (nI cs), .int (nI mk), .int (nI lr)]))] H := hP
      have hD : va_D A [(ak, .inl (cK, 10, .inr (.inr (.inr (.inr kf))))), (h, .inr (0, [.ref an, .ref am, .ref ak, .ref ap, .ref ac, .int (nI nm), .int (nI cs), .int (nI mk), .int (nI lr)]))] := hD
      subst hw_41
      refine t_eq (y := refI false cs) rfl ?_
      refine lv_istore (lv' := [(6, .int (refI false cs)), (5, .int (bI false)), (0, .ref h), (1, .int (nI q)), (2, .int (nI w)), (3, .int z), (4, .int v)]) hx hb d_TC_machine_44 hl (by decide) rfl (fun ls hl => ?_)
      refine lv_iload hx hb d_TC_machine_46 (lv_at hl 0 rfl) ?_
      refine lv_if_eq (tgt := 56) hx hb d_TC_machine_48 (by decide) (fun c_48 => ?_) (fun c_48 => ?_)
      · exact absurd (refI_0 c_48).1 (by decide)
      · have hP : va_P D cls [(h, .inr (0, [.ref an, .ref am, .ref ak, .ref ap, .ref ac, .int (nI nm), .int (nI cs), .int (nI mk), .int (nI lr)])), (ak, .inl (cK, 10, .inr (.inr (.inr (.inr kf)))))] H := hP.sub [1, 0] rfl
        have hD : va_D A [(h, .inr (0, [.ref an, .ref am, .ref ak, .ref ap, .ref ac, .int (nI nm), .int (nI cs), .int (nI mk), .int (nI lr)])), (ak, .inl (cK, 10, .inr (.inr (.inr (.inr kf)))))] := hD.sub [1, 0] (by decide) rfl
        refine lv_iload hx hb d_TC_machine_51 (lv_at hl 0 rfl) ?_
        refine lv_goto (tgt := 72) hx hb d_TC_machine_53 (by decide) ?_
        exact ret_i C0 hr hlk hAe hS (cs, kf, none) (⟨0, 0, 0, adK_r (fun _ => by unfold oMa; first | (rw [hno]; rfl) | (rw [hro]; show (ixN z 64).bind _ = _; rw [hia]; rfl) | (rw [hro]; show (ixN z 64).bind _ = _; rw [hia]; show (ixN v 1001).map _ = _; rw [hib]; rfl)) (fun q => by cases q) c_48⟩) hP hD rfl (Nat.le_of_ble_eq_true rfl) (Nat.le_of_ble_eq_true rfl) d_TC_machine_72
    · obtain ⟨a, hla, hxa, hia⟩ := ik_t (by decide) c_16
      have hl : lv_has ls 7 [(0, .ref h), (1, .int (nI q)), (2, .int (nI w)), (3, .int (nI a)), (4, .int v)] := by rw [← hxa]; exact hl
      refine lv_iload hx hb d_TC_machine_19 (lv_at hl 4 rfl) ?_
      refine lv_iconst (v := (nI 0)) hx hb d_TC_machine_21 (by decide) ?_
      refine lv_sipush (v := (nI 1000)) hx hb d_TC_machine_22 (by decide) ?_
      refine call_i (rm := { frames := 0, cells := 0, slots := 0, locals := 0 }) hS hP hD hA (spl_mk (wc := []) (wr := [(ak, .inl (cK, 10, .inr (.inr (.inr (.inr kf))))), (h, .inr (0, [.ref an, .ref am, .ref ak, .ref ap, .ref ac, .int (nI nm), .int (nI cs), .int (nI mk), .int (nI lr)]))]) [] [0, 1] rfl rfl (by decide)) (run_s (n := 3) (As := [.int v, .int (nI 0), .int (nI 1000)]) (rest := []) C0 (hK.sub [] rfl) (c_TC_isIn l D cI H.size v (nI 0) (nI 1000)) wt_125 wt_1 wt_123 wt_124 (by decide +kernel) ⟨Nat.le_of_ble_eq_true rfl, Nat.le_of_ble_eq_true rfl⟩ rfl hl.1 rfl (Nat.le_of_ble_eq_true rfl) d_TC_machine_25 ⟨Nat.le_of_ble_eq_true rfl, Nat.le_of_ble_eq_true rfl⟩) (fun r_25 _u25 H locs hw_25 hP hD hS => ?_)
      have hP : va_P D cls [(ak, .inl (cK, 10, .inr (.inr (.inr (.inr kf))))), (h, .inr (0, [.ref an, .ref am, .ref ak, .ref ap, .ref ac, .int (nI nm), .int (nI cs), .int (nI mk), .int (nI lr)]))] H := hP
      have hD : va_D A [(ak, .inl (cK, 10, .inr (.inr (.inr (.inr kf))))), (h, .inr (0, [.ref an, .ref am, .ref ak, .ref ap, .ref ac, .int (nI nm), .int (nI cs), .int (nI mk), .int (nI lr)]))] := hD
      subst hw_25
      refine y_eq (tgt := 35) hx hb d_TC_machine_28 (by decide) (fun c_28 => ?_) (fun c_28 => ?_)
      · have hib := ik_f (by decide) c_28
        refine lv_iconst (v := (bI false)) hx hb d_TC_machine_35 (by decide) ?_
        refine lv_istore (lv' := [(5, .int (bI false)), (0, .ref h), (1, .int (nI q)), (2, .int (nI w)), (3, .int (nI a)), (4, .int v)]) hx hb d_TC_machine_36 hl (by decide) rfl (fun ls hl => ?_)
        refine lv_aload_n hx hb d_TC_machine_38 rfl (lv_at hl 1 rfl) ?_
        refine lv_iload hx hb d_TC_machine_39 (lv_at hl 0 rfl) ?_
        refine call_i (rm := { frames := 0, cells := 0, slots := 0, locals := 0 }) hS hP hD hA (spl_mk (wc := [(h, .inr (0, [.ref an, .ref am, .ref ak, .ref ap, .ref ac, .int (nI nm), .int (nI cs), .int (nI mk), .int (nI lr)]))]) (wr := [(ak, .inl (cK, 10, .inr (.inr (.inr (.inr kf)))))]) [1] [0] rfl rfl (by decide)) (run_v (n := 1) (As := [.int (bI false)]) (rest := []) (q0 := 0) (ci := 0) C0 (hK.sub [] rfl) (c_TC_refusalOfNew l D cI H.size h an am ak ap ac nm cs mk lr false hcs) rfl rfl wt_151 wt_1 wt_148 wt_150 wp_2 (by decide +kernel) ⟨Nat.le_of_ble_eq_true rfl, Nat.le_of_ble_eq_true rfl⟩ rfl hl.1 rfl (Nat.le_of_ble_eq_true rfl) d_TC_machine_41 ⟨Nat.le_of_ble_eq_true rfl, Nat.le_of_ble_eq_true rfl⟩) (fun r_41 _u41 H locs hw_41 hP hD hS => ?_)
        have hP : va_P D cls [(ak, .inl (cK, 10, .inr (.inr (.inr (.inr kf))))), (h, .inr (0, [.ref an, .ref am, .ref ak, .ref ap, .ref ac, .int (nI nm), .int (nI cs), .int (nI mk), .int (nI lr)]))] H := hP
        have hD : va_D A [(ak, .inl (cK, 10, .inr (.inr (.inr (.inr kf))))), (h, .inr (0, [.ref an, .ref am, .ref ak, .ref ap, .ref ac, .int (nI nm), .int (nI cs), .int (nI mk), .int (nI lr)]))] := hD
        subst hw_41
        refine t_eq (y := refI false cs) rfl ?_
        refine lv_istore (lv' := [(6, .int (refI false cs)), (5, .int (bI false)), (0, .ref h), (1, .int (nI q)), (2, .int (nI w)), (3, .int (nI a)), (4, .int v)]) hx hb d_TC_machine_44 hl (by decide) rfl (fun ls hl => ?_)
        refine lv_iload hx hb d_TC_machine_46 (lv_at hl 0 rfl) ?_
        refine lv_if_eq (tgt := 56) hx hb d_TC_machine_48 (by decide) (fun c_48 => ?_) (fun c_48 => ?_)
        · exact absurd (refI_0 c_48).1 (by decide)
        · have hP : va_P D cls [(h, .inr (0, [.ref an, .ref am, .ref ak, .ref ap, .ref ac, .int (nI nm), .int (nI cs), .int (nI mk), .int (nI lr)])), (ak, .inl (cK, 10, .inr (.inr (.inr (.inr kf)))))] H := hP.sub [1, 0] rfl
          have hD : va_D A [(h, .inr (0, [.ref an, .ref am, .ref ak, .ref ap, .ref ac, .int (nI nm), .int (nI cs), .int (nI mk), .int (nI lr)])), (ak, .inl (cK, 10, .inr (.inr (.inr (.inr kf)))))] := hD.sub [1, 0] (by decide) rfl
          refine lv_iload hx hb d_TC_machine_51 (lv_at hl 0 rfl) ?_
          refine lv_goto (tgt := 72) hx hb d_TC_machine_53 (by decide) ?_
          exact ret_i C0 hr hlk hAe hS (cs, kf, none) (⟨0, 0, 0, adK_r (fun _ => by unfold oMa; first | (rw [hno]; rfl) | (rw [hro]; show (ixN z 64).bind _ = _; rw [hia]; rfl) | (rw [hro]; show (ixN z 64).bind _ = _; rw [hia]; show (ixN v 1001).map _ = _; rw [hib]; rfl)) (fun q => by cases q) c_48⟩) hP hD rfl (Nat.le_of_ble_eq_true rfl) (Nat.le_of_ble_eq_true rfl) d_TC_machine_72
      · obtain ⟨b, hlb, hxb, hib⟩ := ik_t (by decide) c_28
        have hl : lv_has ls 7 [(0, .ref h), (1, .int (nI q)), (2, .int (nI w)), (3, .int (nI a)), (4, .int (nI b))] := by rw [← hxb]; exact hl
        refine lv_iconst (v := (bI true)) hx hb d_TC_machine_31 (by decide) ?_
        refine lv_goto (tgt := 36) hx hb d_TC_machine_32 (by decide) ?_
        refine lv_istore (lv' := [(5, .int (bI true)), (0, .ref h), (1, .int (nI q)), (2, .int (nI w)), (3, .int (nI a)), (4, .int (nI b))]) hx hb d_TC_machine_36 hl (by decide) rfl (fun ls hl => ?_)
        refine lv_aload_n hx hb d_TC_machine_38 rfl (lv_at hl 1 rfl) ?_
        refine lv_iload hx hb d_TC_machine_39 (lv_at hl 0 rfl) ?_
        refine call_i (rm := { frames := 0, cells := 0, slots := 0, locals := 0 }) hS hP hD hA (spl_mk (wc := [(h, .inr (0, [.ref an, .ref am, .ref ak, .ref ap, .ref ac, .int (nI nm), .int (nI cs), .int (nI mk), .int (nI lr)]))]) (wr := [(ak, .inl (cK, 10, .inr (.inr (.inr (.inr kf)))))]) [1] [0] rfl rfl (by decide)) (run_v (n := 1) (As := [.int (bI true)]) (rest := []) (q0 := 0) (ci := 0) C0 (hK.sub [] rfl) (c_TC_refusalOfNew l D cI H.size h an am ak ap ac nm cs mk lr true hcs) rfl rfl wt_151 wt_1 wt_148 wt_150 wp_2 (by decide +kernel) ⟨Nat.le_of_ble_eq_true rfl, Nat.le_of_ble_eq_true rfl⟩ rfl hl.1 rfl (Nat.le_of_ble_eq_true rfl) d_TC_machine_41 ⟨Nat.le_of_ble_eq_true rfl, Nat.le_of_ble_eq_true rfl⟩) (fun r_41 _u41 H locs hw_41 hP hD hS => ?_)
        have hP : va_P D cls [(ak, .inl (cK, 10, .inr (.inr (.inr (.inr kf))))), (h, .inr (0, [.ref an, .ref am, .ref ak, .ref ap, .ref ac, .int (nI nm), .int (nI cs), .int (nI mk), .int (nI lr)]))] H := hP
        have hD : va_D A [(ak, .inl (cK, 10, .inr (.inr (.inr (.inr kf))))), (h, .inr (0, [.ref an, .ref am, .ref ak, .ref ap, .ref ac, .int (nI nm), .int (nI cs), .int (nI mk), .int (nI lr)]))] := hD
        subst hw_41
        refine t_eq (y := refI true cs) rfl ?_
        refine lv_istore (lv' := [(6, .int (refI true cs)), (5, .int (bI true)), (0, .ref h), (1, .int (nI q)), (2, .int (nI w)), (3, .int (nI a)), (4, .int (nI b))]) hx hb d_TC_machine_44 hl (by decide) rfl (fun ls hl => ?_)
        refine lv_iload hx hb d_TC_machine_46 (lv_at hl 0 rfl) ?_
        refine lv_if_eq (tgt := 56) hx hb d_TC_machine_48 (by decide) (fun c_48 => ?_) (fun c_48 => ?_)
        · obtain ⟨hg, hc10⟩ := refI_0 c_48
          have hoc : oMa nm x y z v = some (1, q, w, a, b, 0) := by unfold oMa; rw [hro]; show (ixN z 64).bind _ = _; rw [hia]; show (ixN v 1001).map _ = _; rw [hib]; rfl
          refine lv_aload_n hx hb d_TC_machine_56 rfl (lv_at hl 2 rfl) ?_
          refine r_new C0 hK hP hD hS hA (ci := 4) rfl i_Ma t_Ma k_Ma wt_231 wt_232 wt_7 [.int (nI 0), .int (nI 0), .int (nI 0), .int (nI 0), .int (nI 0), .int (nI 0), .int (nI 0), .int (nI 0), .null, .null] (fun j hj => by rcases (show j = 0 ∨ j = 1 ∨ j = 2 ∨ j = 3 ∨ j = 4 ∨ j = 5 ∨ j = 6 ∨ j = 7 ∨ j = 8 ∨ j = 9 by omega) with rfl | rfl | rfl | rfl | rfl | rfl | rfl | rfl | rfl | rfl <;> rfl) (Nat.le_of_ble_eq_true rfl) (Nat.le_of_ble_eq_true rfl) d_TC_machine_57 (fun q57 H hP hD hS => ?_)
          have hP : va_P D cls [(ak, .inl (cK, 10, .inr (.inr (.inr (.inr kf))))), (h, .inr (0, [.ref an, .ref am, .ref ak, .ref ap, .ref ac, .int (nI nm), .int (nI cs), .int (nI mk), .int (nI lr)])), (q57, .inr (4, [.int (nI 0), .int (nI 0), .int (nI 0), .int (nI 0), .int (nI 0), .int (nI 0), .int (nI 0), .int (nI 0), .null, .null]))] H := hP
          have hD : va_D A [(ak, .inl (cK, 10, .inr (.inr (.inr (.inr kf))))), (h, .inr (0, [.ref an, .ref am, .ref ak, .ref ap, .ref ac, .int (nI nm), .int (nI cs), .int (nI mk), .int (nI lr)])), (q57, .inr (4, [.int (nI 0), .int (nI 0), .int (nI 0), .int (nI 0), .int (nI 0), .int (nI 0), .int (nI 0), .int (nI 0), .null, .null]))] := hD
          refine W.widen (k := 1) (n := 10) (Nat.le_of_ble_eq_true rfl) (Nat.le_of_ble_eq_true rfl) ?_
          refine lv_dup hx hb d_TC_machine_60 rfl ?_
          refine lv_iload_n hx hb d_TC_machine_61 rfl (lv_at hl 3 rfl) ?_
          refine lv_iload_n hx hb d_TC_machine_62 rfl (lv_at hl 4 rfl) ?_
          refine lv_iload_n hx hb d_TC_machine_63 rfl (lv_at hl 5 rfl) ?_
          refine lv_iload hx hb d_TC_machine_64 (lv_at hl 6 rfl) ?_
          refine call_v (rm := { frames := 2, cells := 2, slots := 37, locals := 47 }) hS hP hD hA (spl_mk (wc := [(q57, .inr (4, [.int (nI 0), .int (nI 0), .int (nI 0), .int (nI 0), .int (nI 0), .int (nI 0), .int (nI 0), .int (nI 0), .null, .null]))]) (wr := [(ak, .inl (cK, 10, .inr (.inr (.inr (.inr kf))))), (h, .inr (0, [.ref an, .ref am, .ref ak, .ref ap, .ref ac, .int (nI nm), .int (nI cs), .int (nI mk), .int (nI lr)]))]) [2] [0, 1] rfl rfl (by decide)) (run_I (n := 4) (As := [.int (nI q), .int (nI w), .int (nI a), .int (nI b)]) (rest := [.ref q57, .ref h]) C0 (hK.sub [] rfl) (c_Ma_init l D cI H.size q57 q w a b hq.2 (by omega)) rfl wt_235 wt_7 wt_233 wt_234 (by decide +kernel) ⟨Nat.le_of_ble_eq_true rfl, Nat.le_of_ble_eq_true rfl⟩ rfl hl.1 rfl (Nat.le_of_ble_eq_true rfl) d_TC_machine_66 ⟨Nat.le_of_ble_eq_true rfl, Nat.le_of_ble_eq_true rfl⟩) (fun u_66 H locs hw_66 hP hD hS => ?_)
          refine W.widen (k := 3) (n := 47) (Nat.le_of_ble_eq_true rfl) (Nat.le_of_ble_eq_true rfl) ?_
          have hP : va_P D cls [(ak, .inl (cK, 10, .inr (.inr (.inr (.inr kf))))), (h, .inr (0, [.ref an, .ref am, .ref ak, .ref ap, .ref ac, .int (nI nm), .int (nI cs), .int (nI mk), .int (nI lr)])), (q57, .inr (4, [.int (nI 1), .int (nI q), .int (nI w), .int (nI (nsF w q)), .int (nI (dgt w (hpF w q))), .int (nI (hpF w q)), .int (nI a), .int (nI b), .ref u_66.1, .ref u_66.2])), (u_66.1, .inl (cI, 30, .inl (nA (fun _ => 0)))), (u_66.2, .inl (cI, 7, .inl (nA (fun _ => 0))))] H := hP
          have hD : va_D A [(ak, .inl (cK, 10, .inr (.inr (.inr (.inr kf))))), (h, .inr (0, [.ref an, .ref am, .ref ak, .ref ap, .ref ac, .int (nI nm), .int (nI cs), .int (nI mk), .int (nI lr)])), (q57, .inr (4, [.int (nI 1), .int (nI q), .int (nI w), .int (nI (nsF w q)), .int (nI (dgt w (hpF w q))), .int (nI (hpF w q)), .int (nI a), .int (nI b), .ref u_66.1, .ref u_66.2])), (u_66.1, .inl (cI, 30, .inl (nA (fun _ => 0)))), (u_66.2, .inl (cI, 7, .inl (nA (fun _ => 0))))] := hD
          refine call_i (rm := { frames := 0, cells := 0, slots := 0, locals := 0 }) hS hP hD hA (spl_mk (wc := [(h, .inr (0, [.ref an, .ref am, .ref ak, .ref ap, .ref ac, .int (nI nm), .int (nI cs), .int (nI mk), .int (nI lr)])), (ak, .inl (cK, 10, .inr (.inr (.inr (.inr kf))))), (q57, .inr (4, [.int (nI 1), .int (nI q), .int (nI w), .int (nI (nsF w q)), .int (nI (dgt w (hpF w q))), .int (nI (hpF w q)), .int (nI a), .int (nI b), .ref u_66.1, .ref u_66.2]))]) (wr := [(u_66.1, .inl (cI, 30, .inl (nA (fun _ => 0)))), (u_66.2, .inl (cI, 7, .inl (nA (fun _ => 0))))]) [1, 0, 2] [3, 4] rfl rfl (by decide)) (run_v (n := 1) (As := [.ref q57]) (rest := []) (q0 := 0) (ci := 0) C0 hK (c_TC_add l D cI H.size cM cK h an am ak ap ac nm cs mk lr kf q57 4 ([.int (nI a), .int (nI b), .ref u_66.1, .ref u_66.2]) 1 q w (nsF w q) (dgt w (hpF w q)) (hpF w q) hcs ⟨by decide, by decide⟩) rfl rfl wt_207 wt_1 wt_204 wt_206 wp_3 (by decide +kernel) ⟨Nat.le_of_ble_eq_true rfl, Nat.le_of_ble_eq_true rfl⟩ rfl hl.1 rfl (Nat.le_of_ble_eq_true rfl) d_TC_machine_69 ⟨Nat.le_of_ble_eq_true rfl, Nat.le_of_ble_eq_true rfl⟩) (fun r_69 u_69 H locs hw_69 hP hD hS => ?_)
          have hP : va_P D cls [(u_66.1, .inl (cI, 30, .inl (nA (fun _ => 0)))), (u_66.2, .inl (cI, 7, .inl (nA (fun _ => 0)))), (h, .inr (0, [.ref an, .ref am, .ref ak, .ref ap, .ref ac, .int (nI nm), .int (nI u_69.1), .int (nI mk), .int (nI lr)])), (ak, .inl (cK, 10, .inr (.inr (.inr (.inr u_69.2))))), (q57, .inr (4, [.int (nI 1), .int (nI q), .int (nI w), .int (nI (nsF w q)), .int (nI (dgt w (hpF w q))), .int (nI (hpF w q)), .int (nI a), .int (nI b), .ref u_66.1, .ref u_66.2]))] H := hP
          have hD : va_D A [(u_66.1, .inl (cI, 30, .inl (nA (fun _ => 0)))), (u_66.2, .inl (cI, 7, .inl (nA (fun _ => 0)))), (h, .inr (0, [.ref an, .ref am, .ref ak, .ref ap, .ref ac, .int (nI nm), .int (nI u_69.1), .int (nI mk), .int (nI lr)])), (ak, .inl (cK, 10, .inr (.inr (.inr (.inr u_69.2))))), (q57, .inr (4, [.int (nI 1), .int (nI q), .int (nI w), .int (nI (nsF w q)), .int (nI (dgt w (hpF w q))), .int (nI (hpF w q)), .int (nI a), .int (nI b), .ref u_66.1, .ref u_66.2]))] := hD
          obtain ⟨-, hra, hua⟩ := hw_69.resolve_left (fun q => hc10 q.1)
          subst hra
          subst hua
          have hP : va_P D cls [(u_66.1, .inl (cI, 30, .inl (nA (fun _ => 0)))), (u_66.2, .inl (cI, 7, .inl (nA (fun _ => 0)))), (h, .inr (0, [.ref an, .ref am, .ref ak, .ref ap, .ref ac, .int (nI nm), .int (nI (cs + 1)), .int (nI mk), .int (nI lr)])), (ak, .inl (cK, 10, .inr (.inr (.inr (.inr (va_up kf cs (some q57))))))), (q57, .inr (4, [.int (nI 1), .int (nI q), .int (nI w), .int (nI (nsF w q)), .int (nI (dgt w (hpF w q))), .int (nI (hpF w q)), .int (nI a), .int (nI b), .ref u_66.1, .ref u_66.2]))] H := hP
          have hD : va_D A [(u_66.1, .inl (cI, 30, .inl (nA (fun _ => 0)))), (u_66.2, .inl (cI, 7, .inl (nA (fun _ => 0)))), (h, .inr (0, [.ref an, .ref am, .ref ak, .ref ap, .ref ac, .int (nI nm), .int (nI (cs + 1)), .int (nI mk), .int (nI lr)])), (ak, .inl (cK, 10, .inr (.inr (.inr (.inr (va_up kf cs (some q57))))))), (q57, .inr (4, [.int (nI 1), .int (nI q), .int (nI w), .int (nI (nsF w q)), .int (nI (dgt w (hpF w q))), .int (nI (hpF w q)), .int (nI a), .int (nI b), .ref u_66.1, .ref u_66.2]))] := hD
          have hP : va_P D cls [(h, .inr (0, [.ref an, .ref am, .ref ak, .ref ap, .ref ac, .int (nI nm), .int (nI (cs + 1)), .int (nI mk), .int (nI lr)])), (ak, .inl (cK, 10, .inr (.inr (.inr (.inr (va_up kf cs (some q57))))))), (q57, .inr (4, [.int (nI 1), .int (nI q), .int (nI w), .int (nI (nsF w q)), .int (nI (dgt w (hpF w q))), .int (nI (hpF w q)), .int (nI a), .int (nI b), .ref u_66.1, .ref u_66.2])), (u_66.1, .inl (cI, 30, .inl (nA (fun _ => 0)))), (u_66.2, .inl (cI, 7, .inl (nA (fun _ => 0))))] H := hP.sub [2, 3, 4, 0, 1] rfl
          have hD : va_D A [(h, .inr (0, [.ref an, .ref am, .ref ak, .ref ap, .ref ac, .int (nI nm), .int (nI (cs + 1)), .int (nI mk), .int (nI lr)])), (ak, .inl (cK, 10, .inr (.inr (.inr (.inr (va_up kf cs (some q57))))))), (q57, .inr (4, [.int (nI 1), .int (nI q), .int (nI w), .int (nI (nsF w q)), .int (nI (dgt w (hpF w q))), .int (nI (hpF w q)), .int (nI a), .int (nI b), .ref u_66.1, .ref u_66.2])), (u_66.1, .inl (cI, 30, .inl (nA (fun _ => 0)))), (u_66.2, .inl (cI, 7, .inl (nA (fun _ => 0))))] := hD.sub [2, 3, 4, 0, 1] (by decide) rfl
          exact ret_i C0 hr hlk hAe hS (cs + 1, va_up kf cs (some q57), some (kNw 1 q w a b 0 q57 u_66.1 u_66.2)) (⟨q57, u_66.1, u_66.2, by rw [hoc]; show _ = (if _ then _ else _); rw [if_neg hc10]⟩) hP hD rfl (Nat.le_of_ble_eq_true rfl) (Nat.le_of_ble_eq_true rfl) d_TC_machine_72
        · have hP : va_P D cls [(h, .inr (0, [.ref an, .ref am, .ref ak, .ref ap, .ref ac, .int (nI nm), .int (nI cs), .int (nI mk), .int (nI lr)])), (ak, .inl (cK, 10, .inr (.inr (.inr (.inr kf)))))] H := hP.sub [1, 0] rfl
          have hD : va_D A [(h, .inr (0, [.ref an, .ref am, .ref ak, .ref ap, .ref ac, .int (nI nm), .int (nI cs), .int (nI mk), .int (nI lr)])), (ak, .inl (cK, 10, .inr (.inr (.inr (.inr kf)))))] := hD.sub [1, 0] (by decide) rfl
          refine lv_iload hx hb d_TC_machine_51 (lv_at hl 0 rfl) ?_
          refine lv_goto (tgt := 72) hx hb d_TC_machine_53 (by decide) ?_
          exact ret_i C0 hr hlk hAe hS (cs, kf, none) (⟨0, 0, 0, adK_r (g := true) (fun q => by cases q) (fun _ => ⟨_, by unfold oMa; rw [hro]; show (ixN z 64).bind _ = _; rw [hia]; show (ixN v 1001).map _ = _; rw [hib]; rfl⟩) c_48⟩) hP hD rfl (Nat.le_of_ble_eq_true rfl) (Nat.le_of_ble_eq_true rfl) d_TC_machine_72
set_option maxHeartbeats 4000000 in
set_option maxRecDepth 100000 in
theorem c_TC_element (l : Launch) (D : va_G) (cI : ClassId) (sz : Nat) (cM : ClassId) (cK : ClassId) (h : Nat) (an : Nat) (am : Nat) (ak : Nat) (ap : Nat) (ac : Nat) (nm : Nat) (cs : Nat) (mk : Nat) (lr : Nat) (kf : Nat → Option Nat) (x : Int32) (y : Int32) (hcs : cs ≤ 10) (hn6 : nm ≤ 6) : MetI l y_TC_element b_TC_element 4 (some .int) { frames := 4, cells := 1, slots := 6, locals := 92 } D cI (tyT cM cK) sz [(h, .inr (0, [.ref an, .ref am, .ref ak, .ref ap, .ref ac, .int (nI nm), .int (nI cs), .int (nI mk), .int (nI lr)])), (ak, .inl (cK, 10, .inr (.inr (.inr (.inr kf)))))] [.ref h, .int x, .int y] (fun (r : Int32) (u : adT) => ∃ ad a1 a2, (r, u) = adK kf cs (oEl nm x y) ad a1 a2) (fun u : adT => ([(h, .inr (0, [.ref an, .ref am, .ref ak, .ref ap, .ref ac, .int (nI nm), .int (nI u.1), .int (nI mk), .int (nI lr)])), (ak, .inl (cK, 10, .inr (.inr (.inr (.inr u.2.1)))))] ++ (nwc cI u.2.2))) := by
  refine enter (by decide) (Nat.le_of_ble_eq_true rfl) ?_
  intro p e s m below meth c A ls C0 hr hlk hnm hK hsz hA hAe hP hD hS hl
  have hx := C0.1
  have hb := C0.2.1
  have hl : lv_has ls 4 [(0, .ref h), (1, .int x), (2, .int y)] := hl
  refine lv_aload_n hx hb d_TC_element_0 rfl (lv_at hl 0 rfl) ?_
  refine lv_aload_n hx hb d_TC_element_1 rfl (lv_at hl 0 rfl) ?_
  refine lv_iload_n hx hb d_TC_element_2 rfl (lv_at hl 1 rfl) ?_
  refine lv_iload_n hx hb d_TC_element_3 rfl (lv_at hl 2 rfl) ?_
  refine call_i (rm := { frames := 2, cells := 0, slots := 0, locals := 43 }) hS hP hD hA (spl_mk (wc := [(h, .inr (0, [.ref an, .ref am, .ref ak, .ref ap, .ref ac, .int (nI nm), .int (nI cs), .int (nI mk), .int (nI lr)]))]) (wr := [(ak, .inl (cK, 10, .inr (.inr (.inr (.inr kf)))))]) [0] [1] rfl rfl (by decide)) (run_v (n := 2) (As := [.int x, .int y]) (rest := [.ref h]) (q0 := 0) (ci := 0) C0 (hK.sub [] rfl) (c_TC_isRow l D cI s.heap.size h an am ak ap ac nm cs mk lr x y hn6) rfl rfl wt_137 wt_1 wt_134 wt_136 wp_0 (by decide +kernel) ⟨Nat.le_of_ble_eq_true rfl, Nat.le_of_ble_eq_true rfl⟩ rfl hl.1 rfl (Nat.le_of_ble_eq_true rfl) d_TC_element_4 ⟨Nat.le_of_ble_eq_true rfl, Nat.le_of_ble_eq_true rfl⟩) (fun r_4 _u4 H locs hw_4 hP hD hS => ?_)
  have hP : va_P D cls [(ak, .inl (cK, 10, .inr (.inr (.inr (.inr kf))))), (h, .inr (0, [.ref an, .ref am, .ref ak, .ref ap, .ref ac, .int (nI nm), .int (nI cs), .int (nI mk), .int (nI lr)]))] H := hP
  have hD : va_D A [(ak, .inl (cK, 10, .inr (.inr (.inr (.inr kf))))), (h, .inr (0, [.ref an, .ref am, .ref ak, .ref ap, .ref ac, .int (nI nm), .int (nI cs), .int (nI mk), .int (nI lr)]))] := hD
  subst hw_4
  refine y_eq (tgt := 19) hx hb d_TC_element_7 (by decide) (fun c_7 => ?_) (fun c_7 => ?_)
  · have hno : rowO nm x y = none := rowO_n c_7
    refine lv_iconst (v := (bI false)) hx hb d_TC_element_19 (by decide) ?_
    refine call_i (rm := { frames := 0, cells := 0, slots := 0, locals := 0 }) hS hP hD hA (spl_mk (wc := [(h, .inr (0, [.ref an, .ref am, .ref ak, .ref ap, .ref ac, .int (nI nm), .int (nI cs), .int (nI mk), .int (nI lr)]))]) (wr := [(ak, .inl (cK, 10, .inr (.inr (.inr (.inr kf)))))]) [1] [0] rfl rfl (by decide)) (run_v (n := 1) (As := [.int (bI false)]) (rest := []) (q0 := 0) (ci := 0) C0 (hK.sub [] rfl) (c_TC_refusalOfNew l D cI H.size h an am ak ap ac nm cs mk lr false hcs) rfl rfl wt_151 wt_1 wt_148 wt_150 wp_2 (by decide +kernel) ⟨Nat.le_of_ble_eq_true rfl, Nat.le_of_ble_eq_true rfl⟩ rfl hl.1 rfl (Nat.le_of_ble_eq_true rfl) d_TC_element_20 ⟨Nat.le_of_ble_eq_true rfl, Nat.le_of_ble_eq_true rfl⟩) (fun r_20 _u20 H locs hw_20 hP hD hS => ?_)
    have hP : va_P D cls [(ak, .inl (cK, 10, .inr (.inr (.inr (.inr kf))))), (h, .inr (0, [.ref an, .ref am, .ref ak, .ref ap, .ref ac, .int (nI nm), .int (nI cs), .int (nI mk), .int (nI lr)]))] H := hP
    have hD : va_D A [(ak, .inl (cK, 10, .inr (.inr (.inr (.inr kf))))), (h, .inr (0, [.ref an, .ref am, .ref ak, .ref ap, .ref ac, .int (nI nm), .int (nI cs), .int (nI mk), .int (nI lr)]))] := hD
    subst hw_20
    refine t_eq (y := refI false cs) rfl ?_
    refine lv_istore_n (lv' := [(3, .int (refI false cs)), (0, .ref h), (1, .int x), (2, .int y)]) hx hb d_TC_element_23 rfl hl (by decide) rfl (fun ls hl => ?_)
    refine lv_iload_n hx hb d_TC_element_24 rfl (lv_at hl 0 rfl) ?_
    refine lv_if_eq (tgt := 32) hx hb d_TC_element_25 (by decide) (fun c_25 => ?_) (fun c_25 => ?_)
    · exact absurd (refI_0 c_25).1 (by decide)
    · have hP : va_P D cls [(h, .inr (0, [.ref an, .ref am, .ref ak, .ref ap, .ref ac, .int (nI nm), .int (nI cs), .int (nI mk), .int (nI lr)])), (ak, .inl (cK, 10, .inr (.inr (.inr (.inr kf)))))] H := hP.sub [1, 0] rfl
      have hD : va_D A [(h, .inr (0, [.ref an, .ref am, .ref ak, .ref ap, .ref ac, .int (nI nm), .int (nI cs), .int (nI mk), .int (nI lr)])), (ak, .inl (cK, 10, .inr (.inr (.inr (.inr kf)))))] := hD.sub [1, 0] (by decide) rfl
      refine lv_iload_n hx hb d_TC_element_28 rfl (lv_at hl 0 rfl) ?_
      refine lv_goto (tgt := 45) hx hb d_TC_element_29 (by decide) ?_
      exact ret_i C0 hr hlk hAe hS (cs, kf, none) (⟨0, 0, 0, adK_r (fun _ => by unfold oEl; first | (rw [hno]; rfl) | (rw [hro]; show (if _ then _ else _) = _; rw [if_neg (by omega)])) (fun q => by cases q) c_25⟩) hP hD rfl (Nat.le_of_ble_eq_true rfl) (Nat.le_of_ble_eq_true rfl) d_TC_element_45
  · obtain ⟨q, w, hq, hxq, hyw, hwq, hw18, hrw, hro⟩ := rowO_s c_7
    have hl : lv_has ls 4 [(0, .ref h), (1, .int (nI q)), (2, .int y)] := by rw [← hxq]; exact hl
    have hl : lv_has ls 4 [(0, .ref h), (1, .int (nI q)), (2, .int (nI w))] := by rw [← hyw]; exact hl
    refine lv_iload_n hx hb d_TC_element_10 rfl (lv_at hl 1 rfl) ?_
    refine lv_iconst (v := (nI 3)) hx hb d_TC_element_11 (by decide) ?_
    refine b_lt (tgt := 19) hx hb (by omega) (by decide) d_TC_element_12 (by decide) (fun c_12 => ?_) (fun c_12 => ?_)
    · refine lv_iconst (v := (bI false)) hx hb d_TC_element_19 (by decide) ?_
      refine call_i (rm := { frames := 0, cells := 0, slots := 0, locals := 0 }) hS hP hD hA (spl_mk (wc := [(h, .inr (0, [.ref an, .ref am, .ref ak, .ref ap, .ref ac, .int (nI nm), .int (nI cs), .int (nI mk), .int (nI lr)]))]) (wr := [(ak, .inl (cK, 10, .inr (.inr (.inr (.inr kf)))))]) [1] [0] rfl rfl (by decide)) (run_v (n := 1) (As := [.int (bI false)]) (rest := []) (q0 := 0) (ci := 0) C0 (hK.sub [] rfl) (c_TC_refusalOfNew l D cI H.size h an am ak ap ac nm cs mk lr false hcs) rfl rfl wt_151 wt_1 wt_148 wt_150 wp_2 (by decide +kernel) ⟨Nat.le_of_ble_eq_true rfl, Nat.le_of_ble_eq_true rfl⟩ rfl hl.1 rfl (Nat.le_of_ble_eq_true rfl) d_TC_element_20 ⟨Nat.le_of_ble_eq_true rfl, Nat.le_of_ble_eq_true rfl⟩) (fun r_20 _u20 H locs hw_20 hP hD hS => ?_)
      have hP : va_P D cls [(ak, .inl (cK, 10, .inr (.inr (.inr (.inr kf))))), (h, .inr (0, [.ref an, .ref am, .ref ak, .ref ap, .ref ac, .int (nI nm), .int (nI cs), .int (nI mk), .int (nI lr)]))] H := hP
      have hD : va_D A [(ak, .inl (cK, 10, .inr (.inr (.inr (.inr kf))))), (h, .inr (0, [.ref an, .ref am, .ref ak, .ref ap, .ref ac, .int (nI nm), .int (nI cs), .int (nI mk), .int (nI lr)]))] := hD
      subst hw_20
      refine t_eq (y := refI false cs) rfl ?_
      refine lv_istore_n (lv' := [(3, .int (refI false cs)), (0, .ref h), (1, .int (nI q)), (2, .int (nI w))]) hx hb d_TC_element_23 rfl hl (by decide) rfl (fun ls hl => ?_)
      refine lv_iload_n hx hb d_TC_element_24 rfl (lv_at hl 0 rfl) ?_
      refine lv_if_eq (tgt := 32) hx hb d_TC_element_25 (by decide) (fun c_25 => ?_) (fun c_25 => ?_)
      · exact absurd (refI_0 c_25).1 (by decide)
      · have hP : va_P D cls [(h, .inr (0, [.ref an, .ref am, .ref ak, .ref ap, .ref ac, .int (nI nm), .int (nI cs), .int (nI mk), .int (nI lr)])), (ak, .inl (cK, 10, .inr (.inr (.inr (.inr kf)))))] H := hP.sub [1, 0] rfl
        have hD : va_D A [(h, .inr (0, [.ref an, .ref am, .ref ak, .ref ap, .ref ac, .int (nI nm), .int (nI cs), .int (nI mk), .int (nI lr)])), (ak, .inl (cK, 10, .inr (.inr (.inr (.inr kf)))))] := hD.sub [1, 0] (by decide) rfl
        refine lv_iload_n hx hb d_TC_element_28 rfl (lv_at hl 0 rfl) ?_
        refine lv_goto (tgt := 45) hx hb d_TC_element_29 (by decide) ?_
        exact ret_i C0 hr hlk hAe hS (cs, kf, none) (⟨0, 0, 0, adK_r (fun _ => by unfold oEl; first | (rw [hno]; rfl) | (rw [hro]; show (if _ then _ else _) = _; rw [if_neg (by omega)])) (fun q => by cases q) c_25⟩) hP hD rfl (Nat.le_of_ble_eq_true rfl) (Nat.le_of_ble_eq_true rfl) d_TC_element_45
    · refine lv_iconst (v := (bI true)) hx hb d_TC_element_15 (by decide) ?_
      refine lv_goto (tgt := 20) hx hb d_TC_element_16 (by decide) ?_
      refine call_i (rm := { frames := 0, cells := 0, slots := 0, locals := 0 }) hS hP hD hA (spl_mk (wc := [(h, .inr (0, [.ref an, .ref am, .ref ak, .ref ap, .ref ac, .int (nI nm), .int (nI cs), .int (nI mk), .int (nI lr)]))]) (wr := [(ak, .inl (cK, 10, .inr (.inr (.inr (.inr kf)))))]) [1] [0] rfl rfl (by decide)) (run_v (n := 1) (As := [.int (bI true)]) (rest := []) (q0 := 0) (ci := 0) C0 (hK.sub [] rfl) (c_TC_refusalOfNew l D cI H.size h an am ak ap ac nm cs mk lr true hcs) rfl rfl wt_151 wt_1 wt_148 wt_150 wp_2 (by decide +kernel) ⟨Nat.le_of_ble_eq_true rfl, Nat.le_of_ble_eq_true rfl⟩ rfl hl.1 rfl (Nat.le_of_ble_eq_true rfl) d_TC_element_20 ⟨Nat.le_of_ble_eq_true rfl, Nat.le_of_ble_eq_true rfl⟩) (fun r_20 _u20 H locs hw_20 hP hD hS => ?_)
      have hP : va_P D cls [(ak, .inl (cK, 10, .inr (.inr (.inr (.inr kf))))), (h, .inr (0, [.ref an, .ref am, .ref ak, .ref ap, .ref ac, .int (nI nm), .int (nI cs), .int (nI mk), .int (nI lr)]))] H := hP
      have hD : va_D A [(ak, .inl (cK, 10, .inr (.inr (.inr (.inr kf))))), (h, .inr (0, [.ref an, .ref am, .ref ak, .ref ap, .ref ac, .int (nI nm), .int (nI cs), .int (nI mk), .int (nI lr)]))] := hD
      subst hw_20
      refine t_eq (y := refI true cs) rfl ?_
      refine lv_istore_n (lv' := [(3, .int (refI true cs)), (0, .ref h), (1, .int (nI q)), (2, .int (nI w))]) hx hb d_TC_element_23 rfl hl (by decide) rfl (fun ls hl => ?_)
      refine lv_iload_n hx hb d_TC_element_24 rfl (lv_at hl 0 rfl) ?_
      refine lv_if_eq (tgt := 32) hx hb d_TC_element_25 (by decide) (fun c_25 => ?_) (fun c_25 => ?_)
      · obtain ⟨hg, hc10⟩ := refI_0 c_25
        have hoc : oEl nm x y = some (2, q, w, 0, 0, 0) := by unfold oEl; rw [hro]; show (if _ then _ else _) = _; rw [if_pos (by omega)]
        refine lv_aload_n hx hb d_TC_element_32 rfl (lv_at hl 1 rfl) ?_
        refine r_new C0 hK hP hD hS hA (ci := 5) rfl i_El t_El k_El wt_272 wt_273 wt_9 [.int (nI 0), .int (nI 0), .int (nI 0), .int (nI 0), .int (nI 0), .int (nI 0)] (fun j hj => by rcases (show j = 0 ∨ j = 1 ∨ j = 2 ∨ j = 3 ∨ j = 4 ∨ j = 5 by omega) with rfl | rfl | rfl | rfl | rfl | rfl <;> rfl) (Nat.le_of_ble_eq_true rfl) (Nat.le_of_ble_eq_true rfl) d_TC_element_33 (fun q33 H hP hD hS => ?_)
        have hP : va_P D cls [(ak, .inl (cK, 10, .inr (.inr (.inr (.inr kf))))), (h, .inr (0, [.ref an, .ref am, .ref ak, .ref ap, .ref ac, .int (nI nm), .int (nI cs), .int (nI mk), .int (nI lr)])), (q33, .inr (5, [.int (nI 0), .int (nI 0), .int (nI 0), .int (nI 0), .int (nI 0), .int (nI 0)]))] H := hP
        have hD : va_D A [(ak, .inl (cK, 10, .inr (.inr (.inr (.inr kf))))), (h, .inr (0, [.ref an, .ref am, .ref ak, .ref ap, .ref ac, .int (nI nm), .int (nI cs), .int (nI mk), .int (nI lr)])), (q33, .inr (5, [.int (nI 0), .int (nI 0), .int (nI 0), .int (nI 0), .int (nI 0), .int (nI 0)]))] := hD
        refine W.widen (k := 1) (n := 6) (Nat.le_of_ble_eq_true rfl) (Nat.le_of_ble_eq_true rfl) ?_
        refine lv_dup hx hb d_TC_element_36 rfl ?_
        refine lv_iload_n hx hb d_TC_element_37 rfl (lv_at hl 2 rfl) ?_
        refine lv_iload_n hx hb d_TC_element_38 rfl (lv_at hl 3 rfl) ?_
        refine call_v (rm := { frames := 3, cells := 0, slots := 0, locals := 70 }) hS hP hD hA (spl_mk (wc := [(q33, .inr (5, [.int (nI 0), .int (nI 0), .int (nI 0), .int (nI 0), .int (nI 0), .int (nI 0)]))]) (wr := [(ak, .inl (cK, 10, .inr (.inr (.inr (.inr kf))))), (h, .inr (0, [.ref an, .ref am, .ref ak, .ref ap, .ref ac, .int (nI nm), .int (nI cs), .int (nI mk), .int (nI lr)]))]) [2] [0, 1] rfl rfl (by decide)) (run_I (n := 2) (As := [.int (nI q), .int (nI w)]) (rest := [.ref q33, .ref h]) C0 (hK.sub [] rfl) (c_El_init l D cI H.size q33 q w hq.2 (by omega)) rfl wt_276 wt_9 wt_274 wt_275 (by decide +kernel) ⟨Nat.le_of_ble_eq_true rfl, Nat.le_of_ble_eq_true rfl⟩ rfl hl.1 rfl (Nat.le_of_ble_eq_true rfl) d_TC_element_39 ⟨Nat.le_of_ble_eq_true rfl, Nat.le_of_ble_eq_true rfl⟩) (fun _u39 H locs hw_39 hP hD hS => ?_)
        have hP : va_P D cls [(ak, .inl (cK, 10, .inr (.inr (.inr (.inr kf))))), (h, .inr (0, [.ref an, .ref am, .ref ak, .ref ap, .ref ac, .int (nI nm), .int (nI cs), .int (nI mk), .int (nI lr)])), (q33, .inr (5, [.int (nI 2), .int (nI q), .int (nI w), .int (nI (nsF w q)), .int (nI (dgt w (hpF w q))), .int (nI (hpF w q))]))] H := hP
        have hD : va_D A [(ak, .inl (cK, 10, .inr (.inr (.inr (.inr kf))))), (h, .inr (0, [.ref an, .ref am, .ref ak, .ref ap, .ref ac, .int (nI nm), .int (nI cs), .int (nI mk), .int (nI lr)])), (q33, .inr (5, [.int (nI 2), .int (nI q), .int (nI w), .int (nI (nsF w q)), .int (nI (dgt w (hpF w q))), .int (nI (hpF w q))]))] := hD
        refine call_i (rm := { frames := 0, cells := 0, slots := 0, locals := 0 }) hS hP hD hA (spl_mk (wc := [(h, .inr (0, [.ref an, .ref am, .ref ak, .ref ap, .ref ac, .int (nI nm), .int (nI cs), .int (nI mk), .int (nI lr)])), (ak, .inl (cK, 10, .inr (.inr (.inr (.inr kf))))), (q33, .inr (5, [.int (nI 2), .int (nI q), .int (nI w), .int (nI (nsF w q)), .int (nI (dgt w (hpF w q))), .int (nI (hpF w q))]))]) (wr := []) [1, 0, 2] [] rfl rfl (by decide)) (run_v (n := 1) (As := [.ref q33]) (rest := []) (q0 := 0) (ci := 0) C0 hK (c_TC_add l D cI H.size cM cK h an am ak ap ac nm cs mk lr kf q33 5 ([]) 2 q w (nsF w q) (dgt w (hpF w q)) (hpF w q) hcs ⟨by decide, by decide⟩) rfl rfl wt_207 wt_1 wt_204 wt_206 wp_3 (by decide +kernel) ⟨Nat.le_of_ble_eq_true rfl, Nat.le_of_ble_eq_true rfl⟩ rfl hl.1 rfl (Nat.le_of_ble_eq_true rfl) d_TC_element_42 ⟨Nat.le_of_ble_eq_true rfl, Nat.le_of_ble_eq_true rfl⟩) (fun r_42 u_42 H locs hw_42 hP hD hS => ?_)
        have hP : va_P D cls [(h, .inr (0, [.ref an, .ref am, .ref ak, .ref ap, .ref ac, .int (nI nm), .int (nI u_42.1), .int (nI mk), .int (nI lr)])), (ak, .inl (cK, 10, .inr (.inr (.inr (.inr u_42.2))))), (q33, .inr (5, [.int (nI 2), .int (nI q), .int (nI w), .int (nI (nsF w q)), .int (nI (dgt w (hpF w q))), .int (nI (hpF w q))]))] H := hP
        have hD : va_D A [(h, .inr (0, [.ref an, .ref am, .ref ak, .ref ap, .ref ac, .int (nI nm), .int (nI u_42.1), .int (nI mk), .int (nI lr)])), (ak, .inl (cK, 10, .inr (.inr (.inr (.inr u_42.2))))), (q33, .inr (5, [.int (nI 2), .int (nI q), .int (nI w), .int (nI (nsF w q)), .int (nI (dgt w (hpF w q))), .int (nI (hpF w q))]))] := hD
        obtain ⟨-, hra, hua⟩ := hw_42.resolve_left (fun q => hc10 q.1)
        subst hra
        subst hua
        have hP : va_P D cls [(h, .inr (0, [.ref an, .ref am, .ref ak, .ref ap, .ref ac, .int (nI nm), .int (nI (cs + 1)), .int (nI mk), .int (nI lr)])), (ak, .inl (cK, 10, .inr (.inr (.inr (.inr (va_up kf cs (some q33))))))), (q33, .inr (5, [.int (nI 2), .int (nI q), .int (nI w), .int (nI (nsF w q)), .int (nI (dgt w (hpF w q))), .int (nI (hpF w q))]))] H := hP
        have hD : va_D A [(h, .inr (0, [.ref an, .ref am, .ref ak, .ref ap, .ref ac, .int (nI nm), .int (nI (cs + 1)), .int (nI mk), .int (nI lr)])), (ak, .inl (cK, 10, .inr (.inr (.inr (.inr (va_up kf cs (some q33))))))), (q33, .inr (5, [.int (nI 2), .int (nI q), .int (nI w), .int (nI (nsF w q)), .int (nI (dgt w (hpF w q))), .int (nI (hpF w q))]))] := hD
        exact ret_i C0 hr hlk hAe hS (cs + 1, va_up kf cs (some q33), some (kNw 2 q w 0 0 0 q33 0 0)) (⟨q33, 0, 0, by rw [hoc]; show _ = (if _ then _ else _); rw [if_neg hc10]⟩) hP hD rfl (Nat.le_of_ble_eq_true rfl) (Nat.le_of_ble_eq_true rfl) d_TC_element_45
      · have hP : va_P D cls [(h, .inr (0, [.ref an, .ref am, .ref ak, .ref ap, .ref ac, .int (nI nm), .int (nI cs), .int (nI mk), .int (nI lr)])), (ak, .inl (cK, 10, .inr (.inr (.inr (.inr kf)))))] H := hP.sub [1, 0] rfl
        have hD : va_D A [(h, .inr (0, [.ref an, .ref am, .ref ak, .ref ap, .ref ac, .int (nI nm), .int (nI cs), .int (nI mk), .int (nI lr)])), (ak, .inl (cK, 10, .inr (.inr (.inr (.inr kf)))))] := hD.sub [1, 0] (by decide) rfl
        refine lv_iload_n hx hb d_TC_element_28 rfl (lv_at hl 0 rfl) ?_
        refine lv_goto (tgt := 45) hx hb d_TC_element_29 (by decide) ?_
        exact ret_i C0 hr hlk hAe hS (cs, kf, none) (⟨0, 0, 0, adK_r (g := true) (fun q => by cases q) (fun _ => ⟨_, by unfold oEl; rw [hro]; show (if _ then _ else _) = _; rw [if_pos (by omega)]⟩) c_25⟩) hP hD rfl (Nat.le_of_ble_eq_true rfl) (Nat.le_of_ble_eq_true rfl) d_TC_element_45
set_option maxHeartbeats 4000000 in
set_option maxRecDepth 100000 in
theorem c_TC_order (l : Launch) (D : va_G) (cI : ClassId) (sz : Nat) (cM : ClassId) (cK : ClassId) (h : Nat) (an : Nat) (am : Nat) (ak : Nat) (ap : Nat) (ac : Nat) (nm : Nat) (cs : Nat) (mk : Nat) (lr : Nat) (kf : Nat → Option Nat) (x : Int32) (y : Int32) (sf : Bool) (hcs : cs ≤ 10) (hn6 : nm ≤ 6) : MetI l y_TC_order b_TC_order 5 (some .int) { frames := 4, cells := 1, slots := 7, locals := 93 } D cI (tyT cM cK) sz [(h, .inr (0, [.ref an, .ref am, .ref ak, .ref ap, .ref ac, .int (nI nm), .int (nI cs), .int (nI mk), .int (nI lr)])), (ak, .inl (cK, 10, .inr (.inr (.inr (.inr kf)))))] [.ref h, .int x, .int y, .int (bI sf)] (fun (r : Int32) (u : adT) => ∃ ad a1 a2, (r, u) = adK kf cs (oOr nm x y sf) ad a1 a2) (fun u : adT => ([(h, .inr (0, [.ref an, .ref am, .ref ak, .ref ap, .ref ac, .int (nI nm), .int (nI u.1), .int (nI mk), .int (nI lr)])), (ak, .inl (cK, 10, .inr (.inr (.inr (.inr u.2.1)))))] ++ (nwc cI u.2.2))) := by
  refine enter (by decide) (Nat.le_of_ble_eq_true rfl) ?_
  intro p e s m below meth c A ls C0 hr hlk hnm hK hsz hA hAe hP hD hS hl
  have hx := C0.1
  have hb := C0.2.1
  have hl : lv_has ls 5 [(0, .ref h), (1, .int x), (2, .int y), (3, .int (bI sf))] := hl
  refine lv_aload_n hx hb d_TC_order_0 rfl (lv_at hl 0 rfl) ?_
  refine lv_aload_n hx hb d_TC_order_1 rfl (lv_at hl 0 rfl) ?_
  refine lv_iload_n hx hb d_TC_order_2 rfl (lv_at hl 1 rfl) ?_
  refine lv_iload_n hx hb d_TC_order_3 rfl (lv_at hl 2 rfl) ?_
  refine call_i (rm := { frames := 2, cells := 0, slots := 0, locals := 43 }) hS hP hD hA (spl_mk (wc := [(h, .inr (0, [.ref an, .ref am, .ref ak, .ref ap, .ref ac, .int (nI nm), .int (nI cs), .int (nI mk), .int (nI lr)]))]) (wr := [(ak, .inl (cK, 10, .inr (.inr (.inr (.inr kf)))))]) [0] [1] rfl rfl (by decide)) (run_v (n := 2) (As := [.int x, .int y]) (rest := [.ref h]) (q0 := 0) (ci := 0) C0 (hK.sub [] rfl) (c_TC_isRow l D cI s.heap.size h an am ak ap ac nm cs mk lr x y hn6) rfl rfl wt_137 wt_1 wt_134 wt_136 wp_0 (by decide +kernel) ⟨Nat.le_of_ble_eq_true rfl, Nat.le_of_ble_eq_true rfl⟩ rfl hl.1 rfl (Nat.le_of_ble_eq_true rfl) d_TC_order_4 ⟨Nat.le_of_ble_eq_true rfl, Nat.le_of_ble_eq_true rfl⟩) (fun r_4 _u4 H locs hw_4 hP hD hS => ?_)
  have hP : va_P D cls [(ak, .inl (cK, 10, .inr (.inr (.inr (.inr kf))))), (h, .inr (0, [.ref an, .ref am, .ref ak, .ref ap, .ref ac, .int (nI nm), .int (nI cs), .int (nI mk), .int (nI lr)]))] H := hP
  have hD : va_D A [(ak, .inl (cK, 10, .inr (.inr (.inr (.inr kf))))), (h, .inr (0, [.ref an, .ref am, .ref ak, .ref ap, .ref ac, .int (nI nm), .int (nI cs), .int (nI mk), .int (nI lr)]))] := hD
  subst hw_4
  refine y_eq (tgt := 20) hx hb d_TC_order_7 (by decide) (fun c_7 => ?_) (fun c_7 => ?_)
  · have hno : rowO nm x y = none := rowO_n c_7
    refine lv_iconst (v := (bI false)) hx hb d_TC_order_20 (by decide) ?_
    refine call_i (rm := { frames := 0, cells := 0, slots := 0, locals := 0 }) hS hP hD hA (spl_mk (wc := [(h, .inr (0, [.ref an, .ref am, .ref ak, .ref ap, .ref ac, .int (nI nm), .int (nI cs), .int (nI mk), .int (nI lr)]))]) (wr := [(ak, .inl (cK, 10, .inr (.inr (.inr (.inr kf)))))]) [1] [0] rfl rfl (by decide)) (run_v (n := 1) (As := [.int (bI false)]) (rest := []) (q0 := 0) (ci := 0) C0 (hK.sub [] rfl) (c_TC_refusalOfNew l D cI H.size h an am ak ap ac nm cs mk lr false hcs) rfl rfl wt_151 wt_1 wt_148 wt_150 wp_2 (by decide +kernel) ⟨Nat.le_of_ble_eq_true rfl, Nat.le_of_ble_eq_true rfl⟩ rfl hl.1 rfl (Nat.le_of_ble_eq_true rfl) d_TC_order_21 ⟨Nat.le_of_ble_eq_true rfl, Nat.le_of_ble_eq_true rfl⟩) (fun r_21 _u21 H locs hw_21 hP hD hS => ?_)
    have hP : va_P D cls [(ak, .inl (cK, 10, .inr (.inr (.inr (.inr kf))))), (h, .inr (0, [.ref an, .ref am, .ref ak, .ref ap, .ref ac, .int (nI nm), .int (nI cs), .int (nI mk), .int (nI lr)]))] H := hP
    have hD : va_D A [(ak, .inl (cK, 10, .inr (.inr (.inr (.inr kf))))), (h, .inr (0, [.ref an, .ref am, .ref ak, .ref ap, .ref ac, .int (nI nm), .int (nI cs), .int (nI mk), .int (nI lr)]))] := hD
    subst hw_21
    refine t_eq (y := refI false cs) rfl ?_
    refine lv_istore (lv' := [(4, .int (refI false cs)), (0, .ref h), (1, .int x), (2, .int y), (3, .int (bI sf))]) hx hb d_TC_order_24 hl (by decide) rfl (fun ls hl => ?_)
    refine lv_iload hx hb d_TC_order_26 (lv_at hl 0 rfl) ?_
    refine lv_if_eq (tgt := 36) hx hb d_TC_order_28 (by decide) (fun c_28 => ?_) (fun c_28 => ?_)
    · exact absurd (refI_0 c_28).1 (by decide)
    · have hP : va_P D cls [(h, .inr (0, [.ref an, .ref am, .ref ak, .ref ap, .ref ac, .int (nI nm), .int (nI cs), .int (nI mk), .int (nI lr)])), (ak, .inl (cK, 10, .inr (.inr (.inr (.inr kf)))))] H := hP.sub [1, 0] rfl
      have hD : va_D A [(h, .inr (0, [.ref an, .ref am, .ref ak, .ref ap, .ref ac, .int (nI nm), .int (nI cs), .int (nI mk), .int (nI lr)])), (ak, .inl (cK, 10, .inr (.inr (.inr (.inr kf)))))] := hD.sub [1, 0] (by decide) rfl
      refine lv_iload hx hb d_TC_order_31 (lv_at hl 0 rfl) ?_
      refine lv_goto (tgt := 50) hx hb d_TC_order_33 (by decide) ?_
      exact ret_i C0 hr hlk hAe hS (cs, kf, none) (⟨0, 0, 0, adK_r (fun _ => by unfold oOr; first | (rw [hno]; rfl) | (rw [hro]; show (if _ then _ else _) = _; rw [if_neg (by omega)])) (fun q => by cases q) c_28⟩) hP hD rfl (Nat.le_of_ble_eq_true rfl) (Nat.le_of_ble_eq_true rfl) d_TC_order_50
  · obtain ⟨q, w, hq, hxq, hyw, hwq, hw18, hrw, hro⟩ := rowO_s c_7
    have hl : lv_has ls 5 [(0, .ref h), (1, .int (nI q)), (2, .int y), (3, .int (bI sf))] := by rw [← hxq]; exact hl
    have hl : lv_has ls 5 [(0, .ref h), (1, .int (nI q)), (2, .int (nI w)), (3, .int (bI sf))] := by rw [← hyw]; exact hl
    refine lv_iload_n hx hb d_TC_order_10 rfl (lv_at hl 1 rfl) ?_
    refine lv_iconst (v := (nI 1)) hx hb d_TC_order_11 (by decide) ?_
    refine lv_iand hx hb d_TC_order_12 ?_
    refine t_eq (y := (nI (q % 2))) (m_and1 _) ?_
    refine z_ne (tgt := 20) hx hb (by omega) d_TC_order_13 (by decide) (fun c_13 => ?_) (fun c_13 => ?_)
    · refine lv_iconst (v := (bI false)) hx hb d_TC_order_20 (by decide) ?_
      refine call_i (rm := { frames := 0, cells := 0, slots := 0, locals := 0 }) hS hP hD hA (spl_mk (wc := [(h, .inr (0, [.ref an, .ref am, .ref ak, .ref ap, .ref ac, .int (nI nm), .int (nI cs), .int (nI mk), .int (nI lr)]))]) (wr := [(ak, .inl (cK, 10, .inr (.inr (.inr (.inr kf)))))]) [1] [0] rfl rfl (by decide)) (run_v (n := 1) (As := [.int (bI false)]) (rest := []) (q0 := 0) (ci := 0) C0 (hK.sub [] rfl) (c_TC_refusalOfNew l D cI H.size h an am ak ap ac nm cs mk lr false hcs) rfl rfl wt_151 wt_1 wt_148 wt_150 wp_2 (by decide +kernel) ⟨Nat.le_of_ble_eq_true rfl, Nat.le_of_ble_eq_true rfl⟩ rfl hl.1 rfl (Nat.le_of_ble_eq_true rfl) d_TC_order_21 ⟨Nat.le_of_ble_eq_true rfl, Nat.le_of_ble_eq_true rfl⟩) (fun r_21 _u21 H locs hw_21 hP hD hS => ?_)
      have hP : va_P D cls [(ak, .inl (cK, 10, .inr (.inr (.inr (.inr kf))))), (h, .inr (0, [.ref an, .ref am, .ref ak, .ref ap, .ref ac, .int (nI nm), .int (nI cs), .int (nI mk), .int (nI lr)]))] H := hP
      have hD : va_D A [(ak, .inl (cK, 10, .inr (.inr (.inr (.inr kf))))), (h, .inr (0, [.ref an, .ref am, .ref ak, .ref ap, .ref ac, .int (nI nm), .int (nI cs), .int (nI mk), .int (nI lr)]))] := hD
      subst hw_21
      refine t_eq (y := refI false cs) rfl ?_
      refine lv_istore (lv' := [(4, .int (refI false cs)), (0, .ref h), (1, .int (nI q)), (2, .int (nI w)), (3, .int (bI sf))]) hx hb d_TC_order_24 hl (by decide) rfl (fun ls hl => ?_)
      refine lv_iload hx hb d_TC_order_26 (lv_at hl 0 rfl) ?_
      refine lv_if_eq (tgt := 36) hx hb d_TC_order_28 (by decide) (fun c_28 => ?_) (fun c_28 => ?_)
      · exact absurd (refI_0 c_28).1 (by decide)
      · have hP : va_P D cls [(h, .inr (0, [.ref an, .ref am, .ref ak, .ref ap, .ref ac, .int (nI nm), .int (nI cs), .int (nI mk), .int (nI lr)])), (ak, .inl (cK, 10, .inr (.inr (.inr (.inr kf)))))] H := hP.sub [1, 0] rfl
        have hD : va_D A [(h, .inr (0, [.ref an, .ref am, .ref ak, .ref ap, .ref ac, .int (nI nm), .int (nI cs), .int (nI mk), .int (nI lr)])), (ak, .inl (cK, 10, .inr (.inr (.inr (.inr kf)))))] := hD.sub [1, 0] (by decide) rfl
        refine lv_iload hx hb d_TC_order_31 (lv_at hl 0 rfl) ?_
        refine lv_goto (tgt := 50) hx hb d_TC_order_33 (by decide) ?_
        exact ret_i C0 hr hlk hAe hS (cs, kf, none) (⟨0, 0, 0, adK_r (fun _ => by unfold oOr; first | (rw [hno]; rfl) | (rw [hro]; show (if _ then _ else _) = _; rw [if_neg (by omega)])) (fun q => by cases q) c_28⟩) hP hD rfl (Nat.le_of_ble_eq_true rfl) (Nat.le_of_ble_eq_true rfl) d_TC_order_50
    · refine lv_iconst (v := (bI true)) hx hb d_TC_order_16 (by decide) ?_
      refine lv_goto (tgt := 21) hx hb d_TC_order_17 (by decide) ?_
      refine call_i (rm := { frames := 0, cells := 0, slots := 0, locals := 0 }) hS hP hD hA (spl_mk (wc := [(h, .inr (0, [.ref an, .ref am, .ref ak, .ref ap, .ref ac, .int (nI nm), .int (nI cs), .int (nI mk), .int (nI lr)]))]) (wr := [(ak, .inl (cK, 10, .inr (.inr (.inr (.inr kf)))))]) [1] [0] rfl rfl (by decide)) (run_v (n := 1) (As := [.int (bI true)]) (rest := []) (q0 := 0) (ci := 0) C0 (hK.sub [] rfl) (c_TC_refusalOfNew l D cI H.size h an am ak ap ac nm cs mk lr true hcs) rfl rfl wt_151 wt_1 wt_148 wt_150 wp_2 (by decide +kernel) ⟨Nat.le_of_ble_eq_true rfl, Nat.le_of_ble_eq_true rfl⟩ rfl hl.1 rfl (Nat.le_of_ble_eq_true rfl) d_TC_order_21 ⟨Nat.le_of_ble_eq_true rfl, Nat.le_of_ble_eq_true rfl⟩) (fun r_21 _u21 H locs hw_21 hP hD hS => ?_)
      have hP : va_P D cls [(ak, .inl (cK, 10, .inr (.inr (.inr (.inr kf))))), (h, .inr (0, [.ref an, .ref am, .ref ak, .ref ap, .ref ac, .int (nI nm), .int (nI cs), .int (nI mk), .int (nI lr)]))] H := hP
      have hD : va_D A [(ak, .inl (cK, 10, .inr (.inr (.inr (.inr kf))))), (h, .inr (0, [.ref an, .ref am, .ref ak, .ref ap, .ref ac, .int (nI nm), .int (nI cs), .int (nI mk), .int (nI lr)]))] := hD
      subst hw_21
      refine t_eq (y := refI true cs) rfl ?_
      refine lv_istore (lv' := [(4, .int (refI true cs)), (0, .ref h), (1, .int (nI q)), (2, .int (nI w)), (3, .int (bI sf))]) hx hb d_TC_order_24 hl (by decide) rfl (fun ls hl => ?_)
      refine lv_iload hx hb d_TC_order_26 (lv_at hl 0 rfl) ?_
      refine lv_if_eq (tgt := 36) hx hb d_TC_order_28 (by decide) (fun c_28 => ?_) (fun c_28 => ?_)
      · obtain ⟨hg, hc10⟩ := refI_0 c_28
        have hoc : oOr nm x y sf = some (3, q, w, if sf = true then 1 else 0, 0, 0) := by unfold oOr; rw [hro]; show (if _ then _ else _) = _; rw [if_pos (by omega)]
        refine lv_aload_n hx hb d_TC_order_36 rfl (lv_at hl 1 rfl) ?_
        refine r_new C0 hK hP hD hS hA (ci := 6) rfl i_Or t_Or k_Or wt_292 wt_293 wt_10 [.int (nI 0), .int (nI 0), .int (nI 0), .int (nI 0), .int (nI 0), .int (nI 0), .int (bI false)] (fun j hj => by rcases (show j = 0 ∨ j = 1 ∨ j = 2 ∨ j = 3 ∨ j = 4 ∨ j = 5 ∨ j = 6 by omega) with rfl | rfl | rfl | rfl | rfl | rfl | rfl <;> rfl) (Nat.le_of_ble_eq_true rfl) (Nat.le_of_ble_eq_true rfl) d_TC_order_37 (fun q37 H hP hD hS => ?_)
        have hP : va_P D cls [(ak, .inl (cK, 10, .inr (.inr (.inr (.inr kf))))), (h, .inr (0, [.ref an, .ref am, .ref ak, .ref ap, .ref ac, .int (nI nm), .int (nI cs), .int (nI mk), .int (nI lr)])), (q37, .inr (6, [.int (nI 0), .int (nI 0), .int (nI 0), .int (nI 0), .int (nI 0), .int (nI 0), .int (bI false)]))] H := hP
        have hD : va_D A [(ak, .inl (cK, 10, .inr (.inr (.inr (.inr kf))))), (h, .inr (0, [.ref an, .ref am, .ref ak, .ref ap, .ref ac, .int (nI nm), .int (nI cs), .int (nI mk), .int (nI lr)])), (q37, .inr (6, [.int (nI 0), .int (nI 0), .int (nI 0), .int (nI 0), .int (nI 0), .int (nI 0), .int (bI false)]))] := hD
        refine W.widen (k := 1) (n := 7) (Nat.le_of_ble_eq_true rfl) (Nat.le_of_ble_eq_true rfl) ?_
        refine lv_dup hx hb d_TC_order_40 rfl ?_
        refine lv_iload_n hx hb d_TC_order_41 rfl (lv_at hl 2 rfl) ?_
        refine lv_iload_n hx hb d_TC_order_42 rfl (lv_at hl 3 rfl) ?_
        refine lv_iload_n hx hb d_TC_order_43 rfl (lv_at hl 4 rfl) ?_
        refine call_v (rm := { frames := 3, cells := 0, slots := 0, locals := 70 }) hS hP hD hA (spl_mk (wc := [(q37, .inr (6, [.int (nI 0), .int (nI 0), .int (nI 0), .int (nI 0), .int (nI 0), .int (nI 0), .int (bI false)]))]) (wr := [(ak, .inl (cK, 10, .inr (.inr (.inr (.inr kf))))), (h, .inr (0, [.ref an, .ref am, .ref ak, .ref ap, .ref ac, .int (nI nm), .int (nI cs), .int (nI mk), .int (nI lr)]))]) [2] [0, 1] rfl rfl (by decide)) (run_I (n := 3) (As := [.int (nI q), .int (nI w), .int (bI sf)]) (rest := [.ref q37, .ref h]) C0 (hK.sub [] rfl) (c_Or_init l D cI H.size q37 q w sf hq.2 (by omega)) rfl wt_296 wt_10 wt_294 wt_295 (by decide +kernel) ⟨Nat.le_of_ble_eq_true rfl, Nat.le_of_ble_eq_true rfl⟩ rfl hl.1 rfl (Nat.le_of_ble_eq_true rfl) d_TC_order_44 ⟨Nat.le_of_ble_eq_true rfl, Nat.le_of_ble_eq_true rfl⟩) (fun _u44 H locs hw_44 hP hD hS => ?_)
        have hP : va_P D cls [(ak, .inl (cK, 10, .inr (.inr (.inr (.inr kf))))), (h, .inr (0, [.ref an, .ref am, .ref ak, .ref ap, .ref ac, .int (nI nm), .int (nI cs), .int (nI mk), .int (nI lr)])), (q37, .inr (6, [.int (nI 3), .int (nI q), .int (nI w), .int (nI (nsF w q)), .int (nI (dgt w (hpF w q))), .int (nI (hpF w q)), .int (bI sf)]))] H := hP
        have hD : va_D A [(ak, .inl (cK, 10, .inr (.inr (.inr (.inr kf))))), (h, .inr (0, [.ref an, .ref am, .ref ak, .ref ap, .ref ac, .int (nI nm), .int (nI cs), .int (nI mk), .int (nI lr)])), (q37, .inr (6, [.int (nI 3), .int (nI q), .int (nI w), .int (nI (nsF w q)), .int (nI (dgt w (hpF w q))), .int (nI (hpF w q)), .int (bI sf)]))] := hD
        refine call_i (rm := { frames := 0, cells := 0, slots := 0, locals := 0 }) hS hP hD hA (spl_mk (wc := [(h, .inr (0, [.ref an, .ref am, .ref ak, .ref ap, .ref ac, .int (nI nm), .int (nI cs), .int (nI mk), .int (nI lr)])), (ak, .inl (cK, 10, .inr (.inr (.inr (.inr kf))))), (q37, .inr (6, [.int (nI 3), .int (nI q), .int (nI w), .int (nI (nsF w q)), .int (nI (dgt w (hpF w q))), .int (nI (hpF w q)), .int (bI sf)]))]) (wr := []) [1, 0, 2] [] rfl rfl (by decide)) (run_v (n := 1) (As := [.ref q37]) (rest := []) (q0 := 0) (ci := 0) C0 hK (c_TC_add l D cI H.size cM cK h an am ak ap ac nm cs mk lr kf q37 6 ([.int (bI sf)]) 3 q w (nsF w q) (dgt w (hpF w q)) (hpF w q) hcs ⟨by decide, by decide⟩) rfl rfl wt_207 wt_1 wt_204 wt_206 wp_3 (by decide +kernel) ⟨Nat.le_of_ble_eq_true rfl, Nat.le_of_ble_eq_true rfl⟩ rfl hl.1 rfl (Nat.le_of_ble_eq_true rfl) d_TC_order_47 ⟨Nat.le_of_ble_eq_true rfl, Nat.le_of_ble_eq_true rfl⟩) (fun r_47 u_47 H locs hw_47 hP hD hS => ?_)
        have hP : va_P D cls [(h, .inr (0, [.ref an, .ref am, .ref ak, .ref ap, .ref ac, .int (nI nm), .int (nI u_47.1), .int (nI mk), .int (nI lr)])), (ak, .inl (cK, 10, .inr (.inr (.inr (.inr u_47.2))))), (q37, .inr (6, [.int (nI 3), .int (nI q), .int (nI w), .int (nI (nsF w q)), .int (nI (dgt w (hpF w q))), .int (nI (hpF w q)), .int (bI sf)]))] H := hP
        have hD : va_D A [(h, .inr (0, [.ref an, .ref am, .ref ak, .ref ap, .ref ac, .int (nI nm), .int (nI u_47.1), .int (nI mk), .int (nI lr)])), (ak, .inl (cK, 10, .inr (.inr (.inr (.inr u_47.2))))), (q37, .inr (6, [.int (nI 3), .int (nI q), .int (nI w), .int (nI (nsF w q)), .int (nI (dgt w (hpF w q))), .int (nI (hpF w q)), .int (bI sf)]))] := hD
        obtain ⟨-, hra, hua⟩ := hw_47.resolve_left (fun q => hc10 q.1)
        subst hra
        subst hua
        have hP : va_P D cls [(h, .inr (0, [.ref an, .ref am, .ref ak, .ref ap, .ref ac, .int (nI nm), .int (nI (cs + 1)), .int (nI mk), .int (nI lr)])), (ak, .inl (cK, 10, .inr (.inr (.inr (.inr (va_up kf cs (some q37))))))), (q37, .inr (6, [.int (nI 3), .int (nI q), .int (nI w), .int (nI (nsF w q)), .int (nI (dgt w (hpF w q))), .int (nI (hpF w q)), .int (bI sf)]))] H := hP
        have hD : va_D A [(h, .inr (0, [.ref an, .ref am, .ref ak, .ref ap, .ref ac, .int (nI nm), .int (nI (cs + 1)), .int (nI mk), .int (nI lr)])), (ak, .inl (cK, 10, .inr (.inr (.inr (.inr (va_up kf cs (some q37))))))), (q37, .inr (6, [.int (nI 3), .int (nI q), .int (nI w), .int (nI (nsF w q)), .int (nI (dgt w (hpF w q))), .int (nI (hpF w q)), .int (bI sf)]))] := hD
        have hP : va_P D cls ([(h, .inr (0, [.ref an, .ref am, .ref ak, .ref ap, .ref ac, .int (nI nm), .int (nI (cs + 1)), .int (nI mk), .int (nI lr)])), (ak, .inl (cK, 10, .inr (.inr (.inr (.inr (va_up kf cs (some q37)))))))] ++ nwc cI (some (kNw 3 q w (if sf = true then 1 else 0) 0 0 q37 0 0))) H := by cases sf <;> exact hP
        have hD : va_D A ([(h, .inr (0, [.ref an, .ref am, .ref ak, .ref ap, .ref ac, .int (nI nm), .int (nI (cs + 1)), .int (nI mk), .int (nI lr)])), (ak, .inl (cK, 10, .inr (.inr (.inr (.inr (va_up kf cs (some q37)))))))] ++ nwc cI (some (kNw 3 q w (if sf = true then 1 else 0) 0 0 q37 0 0))) := by cases sf <;> exact hD
        exact ret_i C0 hr hlk hAe hS (cs + 1, va_up kf cs (some q37), some (kNw 3 q w (if sf = true then 1 else 0) 0 0 q37 0 0)) (⟨q37, 0, 0, by rw [hoc]; show _ = (if _ then _ else _); rw [if_neg hc10]⟩) hP hD rfl (Nat.le_of_ble_eq_true rfl) (Nat.le_of_ble_eq_true rfl) d_TC_order_50
      · have hP : va_P D cls [(h, .inr (0, [.ref an, .ref am, .ref ak, .ref ap, .ref ac, .int (nI nm), .int (nI cs), .int (nI mk), .int (nI lr)])), (ak, .inl (cK, 10, .inr (.inr (.inr (.inr kf)))))] H := hP.sub [1, 0] rfl
        have hD : va_D A [(h, .inr (0, [.ref an, .ref am, .ref ak, .ref ap, .ref ac, .int (nI nm), .int (nI cs), .int (nI mk), .int (nI lr)])), (ak, .inl (cK, 10, .inr (.inr (.inr (.inr kf)))))] := hD.sub [1, 0] (by decide) rfl
        refine lv_iload hx hb d_TC_order_31 (lv_at hl 0 rfl) ?_
        refine lv_goto (tgt := 50) hx hb d_TC_order_33 (by decide) ?_
        exact ret_i C0 hr hlk hAe hS (cs, kf, none) (⟨0, 0, 0, adK_r (g := true) (fun q => by cases q) (fun _ => ⟨_, by unfold oOr; rw [hro]; show (if _ then _ else _) = _; rw [if_pos (by omega)]⟩) c_28⟩) hP hD rfl (Nat.le_of_ble_eq_true rfl) (Nat.le_of_ble_eq_true rfl) d_TC_order_50
set_option maxHeartbeats 4000000 in
set_option maxRecDepth 100000 in
theorem c_TC_sum (l : Launch) (D : va_G) (cI : ClassId) (sz : Nat) (cM : ClassId) (cK : ClassId) (h : Nat) (an : Nat) (am : Nat) (ak : Nat) (ap : Nat) (ac : Nat) (nm : Nat) (cs : Nat) (mk : Nat) (lr : Nat) (kf : Nat → Option Nat) (x : Int32) (y : Int32) (z : Int32) (v : Int32) (hcs : cs ≤ 10) (hn6 : nm ≤ 6) : MetI l y_TC_sum b_TC_sum 6 (some .int) { frames := 4, cells := 1, slots := 8, locals := 94 } D cI (tyT cM cK) sz [(h, .inr (0, [.ref an, .ref am, .ref ak, .ref ap, .ref ac, .int (nI nm), .int (nI cs), .int (nI mk), .int (nI lr)])), (ak, .inl (cK, 10, .inr (.inr (.inr (.inr kf)))))] [.ref h, .int x, .int y, .int z, .int v] (fun (r : Int32) (u : adT) => ∃ ad a1 a2, (r, u) = adK kf cs (oSu nm x y z v) ad a1 a2) (fun u : adT => ([(h, .inr (0, [.ref an, .ref am, .ref ak, .ref ap, .ref ac, .int (nI nm), .int (nI u.1), .int (nI mk), .int (nI lr)])), (ak, .inl (cK, 10, .inr (.inr (.inr (.inr u.2.1)))))] ++ (nwc cI u.2.2))) := by
  refine enter (by decide) (Nat.le_of_ble_eq_true rfl) ?_
  intro p e s m below meth c A ls C0 hr hlk hnm hK hsz hA hAe hP hD hS hl
  have hx := C0.1
  have hb := C0.2.1
  have hl : lv_has ls 6 [(0, .ref h), (1, .int x), (2, .int y), (3, .int z), (4, .int v)] := hl
  refine lv_aload_n hx hb d_TC_sum_0 rfl (lv_at hl 0 rfl) ?_
  refine lv_aload_n hx hb d_TC_sum_1 rfl (lv_at hl 0 rfl) ?_
  refine lv_iload_n hx hb d_TC_sum_2 rfl (lv_at hl 1 rfl) ?_
  refine lv_iload_n hx hb d_TC_sum_3 rfl (lv_at hl 2 rfl) ?_
  refine call_i (rm := { frames := 2, cells := 0, slots := 0, locals := 43 }) hS hP hD hA (spl_mk (wc := [(h, .inr (0, [.ref an, .ref am, .ref ak, .ref ap, .ref ac, .int (nI nm), .int (nI cs), .int (nI mk), .int (nI lr)]))]) (wr := [(ak, .inl (cK, 10, .inr (.inr (.inr (.inr kf)))))]) [0] [1] rfl rfl (by decide)) (run_v (n := 2) (As := [.int x, .int y]) (rest := [.ref h]) (q0 := 0) (ci := 0) C0 (hK.sub [] rfl) (c_TC_isRow l D cI s.heap.size h an am ak ap ac nm cs mk lr x y hn6) rfl rfl wt_137 wt_1 wt_134 wt_136 wp_0 (by decide +kernel) ⟨Nat.le_of_ble_eq_true rfl, Nat.le_of_ble_eq_true rfl⟩ rfl hl.1 rfl (Nat.le_of_ble_eq_true rfl) d_TC_sum_4 ⟨Nat.le_of_ble_eq_true rfl, Nat.le_of_ble_eq_true rfl⟩) (fun r_4 _u4 H locs hw_4 hP hD hS => ?_)
  have hP : va_P D cls [(ak, .inl (cK, 10, .inr (.inr (.inr (.inr kf))))), (h, .inr (0, [.ref an, .ref am, .ref ak, .ref ap, .ref ac, .int (nI nm), .int (nI cs), .int (nI mk), .int (nI lr)]))] H := hP
  have hD : va_D A [(ak, .inl (cK, 10, .inr (.inr (.inr (.inr kf))))), (h, .inr (0, [.ref an, .ref am, .ref ak, .ref ap, .ref ac, .int (nI nm), .int (nI cs), .int (nI mk), .int (nI lr)]))] := hD
  subst hw_4
  refine y_eq (tgt := 25) hx hb d_TC_sum_7 (by decide) (fun c_7 => ?_) (fun c_7 => ?_)
  · have hno : rowO nm x y = none := rowO_n c_7
    refine lv_iconst (v := (bI false)) hx hb d_TC_sum_25 (by decide) ?_
    refine call_i (rm := { frames := 0, cells := 0, slots := 0, locals := 0 }) hS hP hD hA (spl_mk (wc := [(h, .inr (0, [.ref an, .ref am, .ref ak, .ref ap, .ref ac, .int (nI nm), .int (nI cs), .int (nI mk), .int (nI lr)]))]) (wr := [(ak, .inl (cK, 10, .inr (.inr (.inr (.inr kf)))))]) [1] [0] rfl rfl (by decide)) (run_v (n := 1) (As := [.int (bI false)]) (rest := []) (q0 := 0) (ci := 0) C0 (hK.sub [] rfl) (c_TC_refusalOfNew l D cI H.size h an am ak ap ac nm cs mk lr false hcs) rfl rfl wt_151 wt_1 wt_148 wt_150 wp_2 (by decide +kernel) ⟨Nat.le_of_ble_eq_true rfl, Nat.le_of_ble_eq_true rfl⟩ rfl hl.1 rfl (Nat.le_of_ble_eq_true rfl) d_TC_sum_26 ⟨Nat.le_of_ble_eq_true rfl, Nat.le_of_ble_eq_true rfl⟩) (fun r_26 _u26 H locs hw_26 hP hD hS => ?_)
    have hP : va_P D cls [(ak, .inl (cK, 10, .inr (.inr (.inr (.inr kf))))), (h, .inr (0, [.ref an, .ref am, .ref ak, .ref ap, .ref ac, .int (nI nm), .int (nI cs), .int (nI mk), .int (nI lr)]))] H := hP
    have hD : va_D A [(ak, .inl (cK, 10, .inr (.inr (.inr (.inr kf))))), (h, .inr (0, [.ref an, .ref am, .ref ak, .ref ap, .ref ac, .int (nI nm), .int (nI cs), .int (nI mk), .int (nI lr)]))] := hD
    subst hw_26
    refine t_eq (y := refI false cs) rfl ?_
    refine lv_istore (lv' := [(5, .int (refI false cs)), (0, .ref h), (1, .int x), (2, .int y), (3, .int z), (4, .int v)]) hx hb d_TC_sum_29 hl (by decide) rfl (fun ls hl => ?_)
    refine lv_iload hx hb d_TC_sum_31 (lv_at hl 0 rfl) ?_
    refine lv_if_eq (tgt := 41) hx hb d_TC_sum_33 (by decide) (fun c_33 => ?_) (fun c_33 => ?_)
    · exact absurd (refI_0 c_33).1 (by decide)
    · have hP : va_P D cls [(h, .inr (0, [.ref an, .ref am, .ref ak, .ref ap, .ref ac, .int (nI nm), .int (nI cs), .int (nI mk), .int (nI lr)])), (ak, .inl (cK, 10, .inr (.inr (.inr (.inr kf)))))] H := hP.sub [1, 0] rfl
      have hD : va_D A [(h, .inr (0, [.ref an, .ref am, .ref ak, .ref ap, .ref ac, .int (nI nm), .int (nI cs), .int (nI mk), .int (nI lr)])), (ak, .inl (cK, 10, .inr (.inr (.inr (.inr kf)))))] := hD.sub [1, 0] (by decide) rfl
      refine lv_iload hx hb d_TC_sum_36 (lv_at hl 0 rfl) ?_
      refine lv_goto (tgt := 57) hx hb d_TC_sum_38 (by decide) ?_
      exact ret_i C0 hr hlk hAe hS (cs, kf, none) (⟨0, 0, 0, adK_r (fun _ => by first | (unfold oSu; rw [hno]; rfl) | (rcases hbd with h1 | ⟨a, h1, h2⟩; (unfold oSu; rw [hro]; show (ixN z 31).bind _ = _; rw [h1]; rfl); exact oSu_le (b := 0) h1 h2)) (fun q => by cases q) c_33⟩) hP hD rfl (Nat.le_of_ble_eq_true rfl) (Nat.le_of_ble_eq_true rfl) d_TC_sum_57
  · obtain ⟨q, w, hq, hxq, hyw, hwq, hw18, hrw, hro⟩ := rowO_s c_7
    have hl : lv_has ls 6 [(0, .ref h), (1, .int (nI q)), (2, .int y), (3, .int z), (4, .int v)] := by rw [← hxq]; exact hl
    have hl : lv_has ls 6 [(0, .ref h), (1, .int (nI q)), (2, .int (nI w)), (3, .int z), (4, .int v)] := by rw [← hyw]; exact hl
    refine lv_iload_n hx hb d_TC_sum_10 rfl (lv_at hl 3 rfl) ?_
    refine lv_iload hx hb d_TC_sum_11 (lv_at hl 4 rfl) ?_
    refine lv_bipush (v := (nI 30)) hx hb d_TC_sum_13 (by decide) ?_
    refine call_i (rm := { frames := 1, cells := 0, slots := 0, locals := 22 }) hS hP hD hA (spl_mk (wc := []) (wr := [(ak, .inl (cK, 10, .inr (.inr (.inr (.inr kf))))), (h, .inr (0, [.ref an, .ref am, .ref ak, .ref ap, .ref ac, .int (nI nm), .int (nI cs), .int (nI mk), .int (nI lr)]))]) [] [0, 1] rfl rfl (by decide)) (run_s (n := 3) (As := [.int z, .int v, .int (nI 30)]) (rest := [.ref h]) C0 (hK.sub [] rfl) (c_TC_areBounds l D cI H.size z v (nI 30)) wt_314 wt_1 wt_312 wt_313 (by decide +kernel) ⟨Nat.le_of_ble_eq_true rfl, Nat.le_of_ble_eq_true rfl⟩ rfl hl.1 rfl (Nat.le_of_ble_eq_true rfl) d_TC_sum_15 ⟨Nat.le_of_ble_eq_true rfl, Nat.le_of_ble_eq_true rfl⟩) (fun r_15 _u15 H locs hw_15 hP hD hS => ?_)
    have hP : va_P D cls [(ak, .inl (cK, 10, .inr (.inr (.inr (.inr kf))))), (h, .inr (0, [.ref an, .ref am, .ref ak, .ref ap, .ref ac, .int (nI nm), .int (nI cs), .int (nI mk), .int (nI lr)]))] H := hP
    have hD : va_D A [(ak, .inl (cK, 10, .inr (.inr (.inr (.inr kf))))), (h, .inr (0, [.ref an, .ref am, .ref ak, .ref ap, .ref ac, .int (nI nm), .int (nI cs), .int (nI mk), .int (nI lr)]))] := hD
    subst hw_15
    refine y_eq (tgt := 25) hx hb d_TC_sum_18 (by decide) (fun c_18 => ?_) (fun c_18 => ?_)
    · have hbd := bnd_f (by decide) c_18
      refine lv_iconst (v := (bI false)) hx hb d_TC_sum_25 (by decide) ?_
      refine call_i (rm := { frames := 0, cells := 0, slots := 0, locals := 0 }) hS hP hD hA (spl_mk (wc := [(h, .inr (0, [.ref an, .ref am, .ref ak, .ref ap, .ref ac, .int (nI nm), .int (nI cs), .int (nI mk), .int (nI lr)]))]) (wr := [(ak, .inl (cK, 10, .inr (.inr (.inr (.inr kf)))))]) [1] [0] rfl rfl (by decide)) (run_v (n := 1) (As := [.int (bI false)]) (rest := []) (q0 := 0) (ci := 0) C0 (hK.sub [] rfl) (c_TC_refusalOfNew l D cI H.size h an am ak ap ac nm cs mk lr false hcs) rfl rfl wt_151 wt_1 wt_148 wt_150 wp_2 (by decide +kernel) ⟨Nat.le_of_ble_eq_true rfl, Nat.le_of_ble_eq_true rfl⟩ rfl hl.1 rfl (Nat.le_of_ble_eq_true rfl) d_TC_sum_26 ⟨Nat.le_of_ble_eq_true rfl, Nat.le_of_ble_eq_true rfl⟩) (fun r_26 _u26 H locs hw_26 hP hD hS => ?_)
      have hP : va_P D cls [(ak, .inl (cK, 10, .inr (.inr (.inr (.inr kf))))), (h, .inr (0, [.ref an, .ref am, .ref ak, .ref ap, .ref ac, .int (nI nm), .int (nI cs), .int (nI mk), .int (nI lr)]))] H := hP
      have hD : va_D A [(ak, .inl (cK, 10, .inr (.inr (.inr (.inr kf))))), (h, .inr (0, [.ref an, .ref am, .ref ak, .ref ap, .ref ac, .int (nI nm), .int (nI cs), .int (nI mk), .int (nI lr)]))] := hD
      subst hw_26
      refine t_eq (y := refI false cs) rfl ?_
      refine lv_istore (lv' := [(5, .int (refI false cs)), (0, .ref h), (1, .int (nI q)), (2, .int (nI w)), (3, .int z), (4, .int v)]) hx hb d_TC_sum_29 hl (by decide) rfl (fun ls hl => ?_)
      refine lv_iload hx hb d_TC_sum_31 (lv_at hl 0 rfl) ?_
      refine lv_if_eq (tgt := 41) hx hb d_TC_sum_33 (by decide) (fun c_33 => ?_) (fun c_33 => ?_)
      · exact absurd (refI_0 c_33).1 (by decide)
      · have hP : va_P D cls [(h, .inr (0, [.ref an, .ref am, .ref ak, .ref ap, .ref ac, .int (nI nm), .int (nI cs), .int (nI mk), .int (nI lr)])), (ak, .inl (cK, 10, .inr (.inr (.inr (.inr kf)))))] H := hP.sub [1, 0] rfl
        have hD : va_D A [(h, .inr (0, [.ref an, .ref am, .ref ak, .ref ap, .ref ac, .int (nI nm), .int (nI cs), .int (nI mk), .int (nI lr)])), (ak, .inl (cK, 10, .inr (.inr (.inr (.inr kf)))))] := hD.sub [1, 0] (by decide) rfl
        refine lv_iload hx hb d_TC_sum_36 (lv_at hl 0 rfl) ?_
        refine lv_goto (tgt := 57) hx hb d_TC_sum_38 (by decide) ?_
        exact ret_i C0 hr hlk hAe hS (cs, kf, none) (⟨0, 0, 0, adK_r (fun _ => by first | (unfold oSu; rw [hno]; rfl) | (rcases hbd with h1 | ⟨a, h1, h2⟩; (unfold oSu; rw [hro]; show (ixN z 31).bind _ = _; rw [h1]; rfl); exact oSu_le (b := 0) h1 h2)) (fun q => by cases q) c_33⟩) hP hD rfl (Nat.le_of_ble_eq_true rfl) (Nat.le_of_ble_eq_true rfl) d_TC_sum_57
    · obtain ⟨a, b, hab, hb30, hxa, hxb, hia, hib⟩ := bnd_t (by decide) c_18
      have hl : lv_has ls 6 [(0, .ref h), (1, .int (nI q)), (2, .int (nI w)), (3, .int (nI a)), (4, .int v)] := by rw [← hxa]; exact hl
      have hl : lv_has ls 6 [(0, .ref h), (1, .int (nI q)), (2, .int (nI w)), (3, .int (nI a)), (4, .int (nI b))] := by rw [← hxb]; exact hl
      refine lv_iconst (v := (bI true)) hx hb d_TC_sum_21 (by decide) ?_
      refine lv_goto (tgt := 26) hx hb d_TC_sum_22 (by decide) ?_
      refine call_i (rm := { frames := 0, cells := 0, slots := 0, locals := 0 }) hS hP hD hA (spl_mk (wc := [(h, .inr (0, [.ref an, .ref am, .ref ak, .ref ap, .ref ac, .int (nI nm), .int (nI cs), .int (nI mk), .int (nI lr)]))]) (wr := [(ak, .inl (cK, 10, .inr (.inr (.inr (.inr kf)))))]) [1] [0] rfl rfl (by decide)) (run_v (n := 1) (As := [.int (bI true)]) (rest := []) (q0 := 0) (ci := 0) C0 (hK.sub [] rfl) (c_TC_refusalOfNew l D cI H.size h an am ak ap ac nm cs mk lr true hcs) rfl rfl wt_151 wt_1 wt_148 wt_150 wp_2 (by decide +kernel) ⟨Nat.le_of_ble_eq_true rfl, Nat.le_of_ble_eq_true rfl⟩ rfl hl.1 rfl (Nat.le_of_ble_eq_true rfl) d_TC_sum_26 ⟨Nat.le_of_ble_eq_true rfl, Nat.le_of_ble_eq_true rfl⟩) (fun r_26 _u26 H locs hw_26 hP hD hS => ?_)
      have hP : va_P D cls [(ak, .inl (cK, 10, .inr (.inr (.inr (.inr kf))))), (h, .inr (0, [.ref an, .ref am, .ref ak, .ref ap, .ref ac, .int (nI nm), .int (nI cs), .int (nI mk), .int (nI lr)]))] H := hP
      have hD : va_D A [(ak, .inl (cK, 10, .inr (.inr (.inr (.inr kf))))), (h, .inr (0, [.ref an, .ref am, .ref ak, .ref ap, .ref ac, .int (nI nm), .int (nI cs), .int (nI mk), .int (nI lr)]))] := hD
      subst hw_26
      refine t_eq (y := refI true cs) rfl ?_
      refine lv_istore (lv' := [(5, .int (refI true cs)), (0, .ref h), (1, .int (nI q)), (2, .int (nI w)), (3, .int (nI a)), (4, .int (nI b))]) hx hb d_TC_sum_29 hl (by decide) rfl (fun ls hl => ?_)
      refine lv_iload hx hb d_TC_sum_31 (lv_at hl 0 rfl) ?_
      refine lv_if_eq (tgt := 41) hx hb d_TC_sum_33 (by decide) (fun c_33 => ?_) (fun c_33 => ?_)
      · obtain ⟨hg, hc10⟩ := refI_0 c_33
        have hoc : oSu nm x y z v = some (4, q, w, a, b, 0) := by unfold oSu; rw [hro]; show (ixN z 31).bind _ = _; rw [hia]; show (ixN v 31).bind _ = _; rw [hib]; show (if _ then _ else _) = _; rw [if_pos hab]
        refine lv_aload_n hx hb d_TC_sum_41 rfl (lv_at hl 1 rfl) ?_
        refine r_new C0 hK hP hD hS hA (ci := 7) rfl i_Su t_Su k_Su wt_315 wt_316 wt_11 [.int (nI 0), .int (nI 0), .int (nI 0), .int (nI 0), .int (nI 0), .int (nI 0), .int (nI 0), .int (nI 0)] (fun j hj => by rcases (show j = 0 ∨ j = 1 ∨ j = 2 ∨ j = 3 ∨ j = 4 ∨ j = 5 ∨ j = 6 ∨ j = 7 by omega) with rfl | rfl | rfl | rfl | rfl | rfl | rfl | rfl <;> rfl) (Nat.le_of_ble_eq_true rfl) (Nat.le_of_ble_eq_true rfl) d_TC_sum_42 (fun q42 H hP hD hS => ?_)
        have hP : va_P D cls [(ak, .inl (cK, 10, .inr (.inr (.inr (.inr kf))))), (h, .inr (0, [.ref an, .ref am, .ref ak, .ref ap, .ref ac, .int (nI nm), .int (nI cs), .int (nI mk), .int (nI lr)])), (q42, .inr (7, [.int (nI 0), .int (nI 0), .int (nI 0), .int (nI 0), .int (nI 0), .int (nI 0), .int (nI 0), .int (nI 0)]))] H := hP
        have hD : va_D A [(ak, .inl (cK, 10, .inr (.inr (.inr (.inr kf))))), (h, .inr (0, [.ref an, .ref am, .ref ak, .ref ap, .ref ac, .int (nI nm), .int (nI cs), .int (nI mk), .int (nI lr)])), (q42, .inr (7, [.int (nI 0), .int (nI 0), .int (nI 0), .int (nI 0), .int (nI 0), .int (nI 0), .int (nI 0), .int (nI 0)]))] := hD
        refine W.widen (k := 1) (n := 8) (Nat.le_of_ble_eq_true rfl) (Nat.le_of_ble_eq_true rfl) ?_
        refine lv_dup hx hb d_TC_sum_45 rfl ?_
        refine lv_iload_n hx hb d_TC_sum_46 rfl (lv_at hl 2 rfl) ?_
        refine lv_iload_n hx hb d_TC_sum_47 rfl (lv_at hl 3 rfl) ?_
        refine lv_iload_n hx hb d_TC_sum_48 rfl (lv_at hl 4 rfl) ?_
        refine lv_iload hx hb d_TC_sum_49 (lv_at hl 5 rfl) ?_
        refine call_v (rm := { frames := 3, cells := 0, slots := 0, locals := 70 }) hS hP hD hA (spl_mk (wc := [(q42, .inr (7, [.int (nI 0), .int (nI 0), .int (nI 0), .int (nI 0), .int (nI 0), .int (nI 0), .int (nI 0), .int (nI 0)]))]) (wr := [(ak, .inl (cK, 10, .inr (.inr (.inr (.inr kf))))), (h, .inr (0, [.ref an, .ref am, .ref ak, .ref ap, .ref ac, .int (nI nm), .int (nI cs), .int (nI mk), .int (nI lr)]))]) [2] [0, 1] rfl rfl (by decide)) (run_I (n := 4) (As := [.int (nI q), .int (nI w), .int (nI a), .int (nI b)]) (rest := [.ref q42, .ref h]) C0 (hK.sub [] rfl) (c_Su_init l D cI H.size q42 q w a b hq.2 (by omega)) rfl wt_319 wt_11 wt_317 wt_318 (by decide +kernel) ⟨Nat.le_of_ble_eq_true rfl, Nat.le_of_ble_eq_true rfl⟩ rfl hl.1 rfl (Nat.le_of_ble_eq_true rfl) d_TC_sum_51 ⟨Nat.le_of_ble_eq_true rfl, Nat.le_of_ble_eq_true rfl⟩) (fun _u51 H locs hw_51 hP hD hS => ?_)
        have hP : va_P D cls [(ak, .inl (cK, 10, .inr (.inr (.inr (.inr kf))))), (h, .inr (0, [.ref an, .ref am, .ref ak, .ref ap, .ref ac, .int (nI nm), .int (nI cs), .int (nI mk), .int (nI lr)])), (q42, .inr (7, [.int (nI 4), .int (nI q), .int (nI w), .int (nI (nsF w q)), .int (nI (dgt w (hpF w q))), .int (nI (hpF w q)), .int (nI a), .int (nI b)]))] H := hP
        have hD : va_D A [(ak, .inl (cK, 10, .inr (.inr (.inr (.inr kf))))), (h, .inr (0, [.ref an, .ref am, .ref ak, .ref ap, .ref ac, .int (nI nm), .int (nI cs), .int (nI mk), .int (nI lr)])), (q42, .inr (7, [.int (nI 4), .int (nI q), .int (nI w), .int (nI (nsF w q)), .int (nI (dgt w (hpF w q))), .int (nI (hpF w q)), .int (nI a), .int (nI b)]))] := hD
        refine call_i (rm := { frames := 0, cells := 0, slots := 0, locals := 0 }) hS hP hD hA (spl_mk (wc := [(h, .inr (0, [.ref an, .ref am, .ref ak, .ref ap, .ref ac, .int (nI nm), .int (nI cs), .int (nI mk), .int (nI lr)])), (ak, .inl (cK, 10, .inr (.inr (.inr (.inr kf))))), (q42, .inr (7, [.int (nI 4), .int (nI q), .int (nI w), .int (nI (nsF w q)), .int (nI (dgt w (hpF w q))), .int (nI (hpF w q)), .int (nI a), .int (nI b)]))]) (wr := []) [1, 0, 2] [] rfl rfl (by decide)) (run_v (n := 1) (As := [.ref q42]) (rest := []) (q0 := 0) (ci := 0) C0 hK (c_TC_add l D cI H.size cM cK h an am ak ap ac nm cs mk lr kf q42 7 ([.int (nI a), .int (nI b)]) 4 q w (nsF w q) (dgt w (hpF w q)) (hpF w q) hcs ⟨by decide, by decide⟩) rfl rfl wt_207 wt_1 wt_204 wt_206 wp_3 (by decide +kernel) ⟨Nat.le_of_ble_eq_true rfl, Nat.le_of_ble_eq_true rfl⟩ rfl hl.1 rfl (Nat.le_of_ble_eq_true rfl) d_TC_sum_54 ⟨Nat.le_of_ble_eq_true rfl, Nat.le_of_ble_eq_true rfl⟩) (fun r_54 u_54 H locs hw_54 hP hD hS => ?_)
        have hP : va_P D cls [(h, .inr (0, [.ref an, .ref am, .ref ak, .ref ap, .ref ac, .int (nI nm), .int (nI u_54.1), .int (nI mk), .int (nI lr)])), (ak, .inl (cK, 10, .inr (.inr (.inr (.inr u_54.2))))), (q42, .inr (7, [.int (nI 4), .int (nI q), .int (nI w), .int (nI (nsF w q)), .int (nI (dgt w (hpF w q))), .int (nI (hpF w q)), .int (nI a), .int (nI b)]))] H := hP
        have hD : va_D A [(h, .inr (0, [.ref an, .ref am, .ref ak, .ref ap, .ref ac, .int (nI nm), .int (nI u_54.1), .int (nI mk), .int (nI lr)])), (ak, .inl (cK, 10, .inr (.inr (.inr (.inr u_54.2))))), (q42, .inr (7, [.int (nI 4), .int (nI q), .int (nI w), .int (nI (nsF w q)), .int (nI (dgt w (hpF w q))), .int (nI (hpF w q)), .int (nI a), .int (nI b)]))] := hD
        obtain ⟨-, hra, hua⟩ := hw_54.resolve_left (fun q => hc10 q.1)
        subst hra
        subst hua
        have hP : va_P D cls [(h, .inr (0, [.ref an, .ref am, .ref ak, .ref ap, .ref ac, .int (nI nm), .int (nI (cs + 1)), .int (nI mk), .int (nI lr)])), (ak, .inl (cK, 10, .inr (.inr (.inr (.inr (va_up kf cs (some q42))))))), (q42, .inr (7, [.int (nI 4), .int (nI q), .int (nI w), .int (nI (nsF w q)), .int (nI (dgt w (hpF w q))), .int (nI (hpF w q)), .int (nI a), .int (nI b)]))] H := hP
        have hD : va_D A [(h, .inr (0, [.ref an, .ref am, .ref ak, .ref ap, .ref ac, .int (nI nm), .int (nI (cs + 1)), .int (nI mk), .int (nI lr)])), (ak, .inl (cK, 10, .inr (.inr (.inr (.inr (va_up kf cs (some q42))))))), (q42, .inr (7, [.int (nI 4), .int (nI q), .int (nI w), .int (nI (nsF w q)), .int (nI (dgt w (hpF w q))), .int (nI (hpF w q)), .int (nI a), .int (nI b)]))] := hD
        exact ret_i C0 hr hlk hAe hS (cs + 1, va_up kf cs (some q42), some (kNw 4 q w a b 0 q42 0 0)) (⟨q42, 0, 0, by rw [hoc]; show _ = (if _ then _ else _); rw [if_neg hc10]⟩) hP hD rfl (Nat.le_of_ble_eq_true rfl) (Nat.le_of_ble_eq_true rfl) d_TC_sum_57
      · have hP : va_P D cls [(h, .inr (0, [.ref an, .ref am, .ref ak, .ref ap, .ref ac, .int (nI nm), .int (nI cs), .int (nI mk), .int (nI lr)])), (ak, .inl (cK, 10, .inr (.inr (.inr (.inr kf)))))] H := hP.sub [1, 0] rfl
        have hD : va_D A [(h, .inr (0, [.ref an, .ref am, .ref ak, .ref ap, .ref ac, .int (nI nm), .int (nI cs), .int (nI mk), .int (nI lr)])), (ak, .inl (cK, 10, .inr (.inr (.inr (.inr kf)))))] := hD.sub [1, 0] (by decide) rfl
        refine lv_iload hx hb d_TC_sum_36 (lv_at hl 0 rfl) ?_
        refine lv_goto (tgt := 57) hx hb d_TC_sum_38 (by decide) ?_
        exact ret_i C0 hr hlk hAe hS (cs, kf, none) (⟨0, 0, 0, adK_r (g := true) (fun q => by cases q) (fun _ => ⟨_, by unfold oSu; rw [hro]; show (ixN z 31).bind _ = _; rw [hia]; show (ixN v 31).bind _ = _; rw [hib]; show (if _ then _ else _) = _; rw [if_pos hab]⟩) c_33⟩) hP hD rfl (Nat.le_of_ble_eq_true rfl) (Nat.le_of_ble_eq_true rfl) d_TC_sum_57
set_option maxHeartbeats 4000000 in
set_option maxRecDepth 100000 in
theorem c_TC_tally (l : Launch) (D : va_G) (cI : ClassId) (sz : Nat) (cM : ClassId) (cK : ClassId) (h : Nat) (an : Nat) (am : Nat) (ak : Nat) (ap : Nat) (ac : Nat) (nm : Nat) (cs : Nat) (mk : Nat) (lr : Nat) (kf : Nat → Option Nat) (x : Int32) (y : Int32) (z : Int32) (v : Int32) (g : Int32) (hcs : cs ≤ 10) (hn6 : nm ≤ 6) : MetI l y_TC_tally b_TC_tally 8 (some .int) { frames := 4, cells := 1, slots := 9, locals := 95 } D cI (tyT cM cK) sz [(h, .inr (0, [.ref an, .ref am, .ref ak, .ref ap, .ref ac, .int (nI nm), .int (nI cs), .int (nI mk), .int (nI lr)])), (ak, .inl (cK, 10, .inr (.inr (.inr (.inr kf)))))] [.ref h, .int x, .int y, .int z, .int v, .int g] (fun (r : Int32) (u : adT) => ∃ ad a1 a2, (r, u) = adK kf cs (oTy nm x y z v g) ad a1 a2) (fun u : adT => ([(h, .inr (0, [.ref an, .ref am, .ref ak, .ref ap, .ref ac, .int (nI nm), .int (nI u.1), .int (nI mk), .int (nI lr)])), (ak, .inl (cK, 10, .inr (.inr (.inr (.inr u.2.1)))))] ++ (nwc cI u.2.2))) := by
  refine enter (by decide) (Nat.le_of_ble_eq_true rfl) ?_
  intro p e s m below meth c A ls C0 hr hlk hnm hK hsz hA hAe hP hD hS hl
  have hx := C0.1
  have hb := C0.2.1
  have hl : lv_has ls 8 [(0, .ref h), (1, .int x), (2, .int y), (3, .int z), (4, .int v), (5, .int g)] := hl
  refine lv_aload_n hx hb d_TC_tally_0 rfl (lv_at hl 0 rfl) ?_
  refine lv_iload_n hx hb d_TC_tally_1 rfl (lv_at hl 1 rfl) ?_
  refine lv_iload_n hx hb d_TC_tally_2 rfl (lv_at hl 2 rfl) ?_
  refine call_i (rm := { frames := 2, cells := 0, slots := 0, locals := 43 }) hS hP hD hA (spl_mk (wc := [(h, .inr (0, [.ref an, .ref am, .ref ak, .ref ap, .ref ac, .int (nI nm), .int (nI cs), .int (nI mk), .int (nI lr)]))]) (wr := [(ak, .inl (cK, 10, .inr (.inr (.inr (.inr kf)))))]) [0] [1] rfl rfl (by decide)) (run_v (n := 2) (As := [.int x, .int y]) (rest := []) (q0 := 0) (ci := 0) C0 (hK.sub [] rfl) (c_TC_isRow l D cI s.heap.size h an am ak ap ac nm cs mk lr x y hn6) rfl rfl wt_137 wt_1 wt_134 wt_136 wp_0 (by decide +kernel) ⟨Nat.le_of_ble_eq_true rfl, Nat.le_of_ble_eq_true rfl⟩ rfl hl.1 rfl (Nat.le_of_ble_eq_true rfl) d_TC_tally_3 ⟨Nat.le_of_ble_eq_true rfl, Nat.le_of_ble_eq_true rfl⟩) (fun r_3 _u3 H locs hw_3 hP hD hS => ?_)
  have hP : va_P D cls [(ak, .inl (cK, 10, .inr (.inr (.inr (.inr kf))))), (h, .inr (0, [.ref an, .ref am, .ref ak, .ref ap, .ref ac, .int (nI nm), .int (nI cs), .int (nI mk), .int (nI lr)]))] H := hP
  have hD : va_D A [(ak, .inl (cK, 10, .inr (.inr (.inr (.inr kf))))), (h, .inr (0, [.ref an, .ref am, .ref ak, .ref ap, .ref ac, .int (nI nm), .int (nI cs), .int (nI mk), .int (nI lr)]))] := hD
  subst hw_3
  refine y_eq (tgt := 32) hx hb d_TC_tally_6 (by decide) (fun c_6 => ?_) (fun c_6 => ?_)
  · have hno : rowO nm x y = none := rowO_n c_6
    refine lv_iconst (v := (bI false)) hx hb d_TC_tally_32 (by decide) ?_
    refine lv_istore (lv' := [(6, .int (bI false)), (0, .ref h), (1, .int x), (2, .int y), (3, .int z), (4, .int v), (5, .int g)]) hx hb d_TC_tally_33 hl (by decide) rfl (fun ls hl => ?_)
    refine lv_aload_n hx hb d_TC_tally_35 rfl (lv_at hl 1 rfl) ?_
    refine lv_iload hx hb d_TC_tally_36 (lv_at hl 0 rfl) ?_
    refine call_i (rm := { frames := 0, cells := 0, slots := 0, locals := 0 }) hS hP hD hA (spl_mk (wc := [(h, .inr (0, [.ref an, .ref am, .ref ak, .ref ap, .ref ac, .int (nI nm), .int (nI cs), .int (nI mk), .int (nI lr)]))]) (wr := [(ak, .inl (cK, 10, .inr (.inr (.inr (.inr kf)))))]) [1] [0] rfl rfl (by decide)) (run_v (n := 1) (As := [.int (bI false)]) (rest := []) (q0 := 0) (ci := 0) C0 (hK.sub [] rfl) (c_TC_refusalOfNew l D cI H.size h an am ak ap ac nm cs mk lr false hcs) rfl rfl wt_151 wt_1 wt_148 wt_150 wp_2 (by decide +kernel) ⟨Nat.le_of_ble_eq_true rfl, Nat.le_of_ble_eq_true rfl⟩ rfl hl.1 rfl (Nat.le_of_ble_eq_true rfl) d_TC_tally_38 ⟨Nat.le_of_ble_eq_true rfl, Nat.le_of_ble_eq_true rfl⟩) (fun r_38 _u38 H locs hw_38 hP hD hS => ?_)
    have hP : va_P D cls [(ak, .inl (cK, 10, .inr (.inr (.inr (.inr kf))))), (h, .inr (0, [.ref an, .ref am, .ref ak, .ref ap, .ref ac, .int (nI nm), .int (nI cs), .int (nI mk), .int (nI lr)]))] H := hP
    have hD : va_D A [(ak, .inl (cK, 10, .inr (.inr (.inr (.inr kf))))), (h, .inr (0, [.ref an, .ref am, .ref ak, .ref ap, .ref ac, .int (nI nm), .int (nI cs), .int (nI mk), .int (nI lr)]))] := hD
    subst hw_38
    refine t_eq (y := refI false cs) rfl ?_
    refine lv_istore (lv' := [(7, .int (refI false cs)), (6, .int (bI false)), (0, .ref h), (1, .int x), (2, .int y), (3, .int z), (4, .int v), (5, .int g)]) hx hb d_TC_tally_41 hl (by decide) rfl (fun ls hl => ?_)
    refine lv_iload hx hb d_TC_tally_43 (lv_at hl 0 rfl) ?_
    refine lv_if_eq (tgt := 53) hx hb d_TC_tally_45 (by decide) (fun c_45 => ?_) (fun c_45 => ?_)
    · exact absurd (refI_0 c_45).1 (by decide)
    · have hP : va_P D cls [(h, .inr (0, [.ref an, .ref am, .ref ak, .ref ap, .ref ac, .int (nI nm), .int (nI cs), .int (nI mk), .int (nI lr)])), (ak, .inl (cK, 10, .inr (.inr (.inr (.inr kf)))))] H := hP.sub [1, 0] rfl
      have hD : va_D A [(h, .inr (0, [.ref an, .ref am, .ref ak, .ref ap, .ref ac, .int (nI nm), .int (nI cs), .int (nI mk), .int (nI lr)])), (ak, .inl (cK, 10, .inr (.inr (.inr (.inr kf)))))] := hD.sub [1, 0] (by decide) rfl
      refine lv_iload hx hb d_TC_tally_48 (lv_at hl 0 rfl) ?_
      refine lv_goto (tgt := 71) hx hb d_TC_tally_50 (by decide) ?_
      exact ret_i C0 hr hlk hAe hS (cs, kf, none) (⟨0, 0, 0, adK_r (fun _ => by first | (unfold oTy; rw [hno]; rfl) | (rcases hbd with h1 | ⟨a, h1, h2⟩; (unfold oTy; rw [hro]; show (ixN z 6).bind _ = _; rw [hid]; show (ixN v 7).bind _ = _; rw [h1]; rfl); exact oTy_le (b := 0) h1 h2) | (unfold oTy; rw [hro]; show (ixN z 6).bind _ = _; rw [hid]; rfl)) (fun q => by cases q) c_45⟩) hP hD rfl (Nat.le_of_ble_eq_true rfl) (Nat.le_of_ble_eq_true rfl) d_TC_tally_71
  · obtain ⟨q, w, hq, hxq, hyw, hwq, hw18, hrw, hro⟩ := rowO_s c_6
    have hl : lv_has ls 8 [(0, .ref h), (1, .int (nI q)), (2, .int y), (3, .int z), (4, .int v), (5, .int g)] := by rw [← hxq]; exact hl
    have hl : lv_has ls 8 [(0, .ref h), (1, .int (nI q)), (2, .int (nI w)), (3, .int z), (4, .int v), (5, .int g)] := by rw [← hyw]; exact hl
    refine lv_iload_n hx hb d_TC_tally_9 rfl (lv_at hl 3 rfl) ?_
    refine call_i (rm := { frames := 1, cells := 0, slots := 0, locals := 22 }) hS hP hD hA (spl_mk (wc := []) (wr := [(ak, .inl (cK, 10, .inr (.inr (.inr (.inr kf))))), (h, .inr (0, [.ref an, .ref am, .ref ak, .ref ap, .ref ac, .int (nI nm), .int (nI cs), .int (nI mk), .int (nI lr)]))]) [] [0, 1] rfl rfl (by decide)) (run_s (n := 1) (As := [.int z]) (rest := []) C0 (hK.sub [] rfl) (c_TC_isValue l D cI H.size z) wt_221 wt_1 wt_219 wt_220 (by decide +kernel) ⟨Nat.le_of_ble_eq_true rfl, Nat.le_of_ble_eq_true rfl⟩ rfl hl.1 rfl (Nat.le_of_ble_eq_true rfl) d_TC_tally_10 ⟨Nat.le_of_ble_eq_true rfl, Nat.le_of_ble_eq_true rfl⟩) (fun r_10 _u10 H locs hw_10 hP hD hS => ?_)
    have hP : va_P D cls [(ak, .inl (cK, 10, .inr (.inr (.inr (.inr kf))))), (h, .inr (0, [.ref an, .ref am, .ref ak, .ref ap, .ref ac, .int (nI nm), .int (nI cs), .int (nI mk), .int (nI lr)]))] H := hP
    have hD : va_D A [(ak, .inl (cK, 10, .inr (.inr (.inr (.inr kf))))), (h, .inr (0, [.ref an, .ref am, .ref ak, .ref ap, .ref ac, .int (nI nm), .int (nI cs), .int (nI mk), .int (nI lr)]))] := hD
    subst hw_10
    refine y_eq (tgt := 32) hx hb d_TC_tally_13 (by decide) (fun c_13 => ?_) (fun c_13 => ?_)
    · have hid := ik_f (by decide) c_13
      refine lv_iconst (v := (bI false)) hx hb d_TC_tally_32 (by decide) ?_
      refine lv_istore (lv' := [(6, .int (bI false)), (0, .ref h), (1, .int (nI q)), (2, .int (nI w)), (3, .int z), (4, .int v), (5, .int g)]) hx hb d_TC_tally_33 hl (by decide) rfl (fun ls hl => ?_)
      refine lv_aload_n hx hb d_TC_tally_35 rfl (lv_at hl 1 rfl) ?_
      refine lv_iload hx hb d_TC_tally_36 (lv_at hl 0 rfl) ?_
      refine call_i (rm := { frames := 0, cells := 0, slots := 0, locals := 0 }) hS hP hD hA (spl_mk (wc := [(h, .inr (0, [.ref an, .ref am, .ref ak, .ref ap, .ref ac, .int (nI nm), .int (nI cs), .int (nI mk), .int (nI lr)]))]) (wr := [(ak, .inl (cK, 10, .inr (.inr (.inr (.inr kf)))))]) [1] [0] rfl rfl (by decide)) (run_v (n := 1) (As := [.int (bI false)]) (rest := []) (q0 := 0) (ci := 0) C0 (hK.sub [] rfl) (c_TC_refusalOfNew l D cI H.size h an am ak ap ac nm cs mk lr false hcs) rfl rfl wt_151 wt_1 wt_148 wt_150 wp_2 (by decide +kernel) ⟨Nat.le_of_ble_eq_true rfl, Nat.le_of_ble_eq_true rfl⟩ rfl hl.1 rfl (Nat.le_of_ble_eq_true rfl) d_TC_tally_38 ⟨Nat.le_of_ble_eq_true rfl, Nat.le_of_ble_eq_true rfl⟩) (fun r_38 _u38 H locs hw_38 hP hD hS => ?_)
      have hP : va_P D cls [(ak, .inl (cK, 10, .inr (.inr (.inr (.inr kf))))), (h, .inr (0, [.ref an, .ref am, .ref ak, .ref ap, .ref ac, .int (nI nm), .int (nI cs), .int (nI mk), .int (nI lr)]))] H := hP
      have hD : va_D A [(ak, .inl (cK, 10, .inr (.inr (.inr (.inr kf))))), (h, .inr (0, [.ref an, .ref am, .ref ak, .ref ap, .ref ac, .int (nI nm), .int (nI cs), .int (nI mk), .int (nI lr)]))] := hD
      subst hw_38
      refine t_eq (y := refI false cs) rfl ?_
      refine lv_istore (lv' := [(7, .int (refI false cs)), (6, .int (bI false)), (0, .ref h), (1, .int (nI q)), (2, .int (nI w)), (3, .int z), (4, .int v), (5, .int g)]) hx hb d_TC_tally_41 hl (by decide) rfl (fun ls hl => ?_)
      refine lv_iload hx hb d_TC_tally_43 (lv_at hl 0 rfl) ?_
      refine lv_if_eq (tgt := 53) hx hb d_TC_tally_45 (by decide) (fun c_45 => ?_) (fun c_45 => ?_)
      · exact absurd (refI_0 c_45).1 (by decide)
      · have hP : va_P D cls [(h, .inr (0, [.ref an, .ref am, .ref ak, .ref ap, .ref ac, .int (nI nm), .int (nI cs), .int (nI mk), .int (nI lr)])), (ak, .inl (cK, 10, .inr (.inr (.inr (.inr kf)))))] H := hP.sub [1, 0] rfl
        have hD : va_D A [(h, .inr (0, [.ref an, .ref am, .ref ak, .ref ap, .ref ac, .int (nI nm), .int (nI cs), .int (nI mk), .int (nI lr)])), (ak, .inl (cK, 10, .inr (.inr (.inr (.inr kf)))))] := hD.sub [1, 0] (by decide) rfl
        refine lv_iload hx hb d_TC_tally_48 (lv_at hl 0 rfl) ?_
        refine lv_goto (tgt := 71) hx hb d_TC_tally_50 (by decide) ?_
        exact ret_i C0 hr hlk hAe hS (cs, kf, none) (⟨0, 0, 0, adK_r (fun _ => by first | (unfold oTy; rw [hno]; rfl) | (rcases hbd with h1 | ⟨a, h1, h2⟩; (unfold oTy; rw [hro]; show (ixN z 6).bind _ = _; rw [hid]; show (ixN v 7).bind _ = _; rw [h1]; rfl); exact oTy_le (b := 0) h1 h2) | (unfold oTy; rw [hro]; show (ixN z 6).bind _ = _; rw [hid]; rfl)) (fun q => by cases q) c_45⟩) hP hD rfl (Nat.le_of_ble_eq_true rfl) (Nat.le_of_ble_eq_true rfl) d_TC_tally_71
    · obtain ⟨d, hld, hxd, hid⟩ := ik_t (by decide) c_13
      have hl : lv_has ls 8 [(0, .ref h), (1, .int (nI q)), (2, .int (nI w)), (3, .int (nI d)), (4, .int v), (5, .int g)] := by rw [← hxd]; exact hl
      refine lv_iload hx hb d_TC_tally_16 (lv_at hl 4 rfl) ?_
      refine lv_iload hx hb d_TC_tally_18 (lv_at hl 5 rfl) ?_
      refine lv_bipush (v := (nI 6)) hx hb d_TC_tally_20 (by decide) ?_
      refine call_i (rm := { frames := 1, cells := 0, slots := 0, locals := 22 }) hS hP hD hA (spl_mk (wc := []) (wr := [(ak, .inl (cK, 10, .inr (.inr (.inr (.inr kf))))), (h, .inr (0, [.ref an, .ref am, .ref ak, .ref ap, .ref ac, .int (nI nm), .int (nI cs), .int (nI mk), .int (nI lr)]))]) [] [0, 1] rfl rfl (by decide)) (run_s (n := 3) (As := [.int v, .int g, .int (nI 6)]) (rest := []) C0 (hK.sub [] rfl) (c_TC_areBounds l D cI H.size v g (nI 6)) wt_314 wt_1 wt_312 wt_313 (by decide +kernel) ⟨Nat.le_of_ble_eq_true rfl, Nat.le_of_ble_eq_true rfl⟩ rfl hl.1 rfl (Nat.le_of_ble_eq_true rfl) d_TC_tally_22 ⟨Nat.le_of_ble_eq_true rfl, Nat.le_of_ble_eq_true rfl⟩) (fun r_22 _u22 H locs hw_22 hP hD hS => ?_)
      have hP : va_P D cls [(ak, .inl (cK, 10, .inr (.inr (.inr (.inr kf))))), (h, .inr (0, [.ref an, .ref am, .ref ak, .ref ap, .ref ac, .int (nI nm), .int (nI cs), .int (nI mk), .int (nI lr)]))] H := hP
      have hD : va_D A [(ak, .inl (cK, 10, .inr (.inr (.inr (.inr kf))))), (h, .inr (0, [.ref an, .ref am, .ref ak, .ref ap, .ref ac, .int (nI nm), .int (nI cs), .int (nI mk), .int (nI lr)]))] := hD
      subst hw_22
      refine y_eq (tgt := 32) hx hb d_TC_tally_25 (by decide) (fun c_25 => ?_) (fun c_25 => ?_)
      · have hbd := bnd_f (by decide) c_25
        refine lv_iconst (v := (bI false)) hx hb d_TC_tally_32 (by decide) ?_
        refine lv_istore (lv' := [(6, .int (bI false)), (0, .ref h), (1, .int (nI q)), (2, .int (nI w)), (3, .int (nI d)), (4, .int v), (5, .int g)]) hx hb d_TC_tally_33 hl (by decide) rfl (fun ls hl => ?_)
        refine lv_aload_n hx hb d_TC_tally_35 rfl (lv_at hl 1 rfl) ?_
        refine lv_iload hx hb d_TC_tally_36 (lv_at hl 0 rfl) ?_
        refine call_i (rm := { frames := 0, cells := 0, slots := 0, locals := 0 }) hS hP hD hA (spl_mk (wc := [(h, .inr (0, [.ref an, .ref am, .ref ak, .ref ap, .ref ac, .int (nI nm), .int (nI cs), .int (nI mk), .int (nI lr)]))]) (wr := [(ak, .inl (cK, 10, .inr (.inr (.inr (.inr kf)))))]) [1] [0] rfl rfl (by decide)) (run_v (n := 1) (As := [.int (bI false)]) (rest := []) (q0 := 0) (ci := 0) C0 (hK.sub [] rfl) (c_TC_refusalOfNew l D cI H.size h an am ak ap ac nm cs mk lr false hcs) rfl rfl wt_151 wt_1 wt_148 wt_150 wp_2 (by decide +kernel) ⟨Nat.le_of_ble_eq_true rfl, Nat.le_of_ble_eq_true rfl⟩ rfl hl.1 rfl (Nat.le_of_ble_eq_true rfl) d_TC_tally_38 ⟨Nat.le_of_ble_eq_true rfl, Nat.le_of_ble_eq_true rfl⟩) (fun r_38 _u38 H locs hw_38 hP hD hS => ?_)
        have hP : va_P D cls [(ak, .inl (cK, 10, .inr (.inr (.inr (.inr kf))))), (h, .inr (0, [.ref an, .ref am, .ref ak, .ref ap, .ref ac, .int (nI nm), .int (nI cs), .int (nI mk), .int (nI lr)]))] H := hP
        have hD : va_D A [(ak, .inl (cK, 10, .inr (.inr (.inr (.inr kf))))), (h, .inr (0, [.ref an, .ref am, .ref ak, .ref ap, .ref ac, .int (nI nm), .int (nI cs), .int (nI mk), .int (nI lr)]))] := hD
        subst hw_38
        refine t_eq (y := refI false cs) rfl ?_
        refine lv_istore (lv' := [(7, .int (refI false cs)), (6, .int (bI false)), (0, .ref h), (1, .int (nI q)), (2, .int (nI w)), (3, .int (nI d)), (4, .int v), (5, .int g)]) hx hb d_TC_tally_41 hl (by decide) rfl (fun ls hl => ?_)
        refine lv_iload hx hb d_TC_tally_43 (lv_at hl 0 rfl) ?_
        refine lv_if_eq (tgt := 53) hx hb d_TC_tally_45 (by decide) (fun c_45 => ?_) (fun c_45 => ?_)
        · exact absurd (refI_0 c_45).1 (by decide)
        · have hP : va_P D cls [(h, .inr (0, [.ref an, .ref am, .ref ak, .ref ap, .ref ac, .int (nI nm), .int (nI cs), .int (nI mk), .int (nI lr)])), (ak, .inl (cK, 10, .inr (.inr (.inr (.inr kf)))))] H := hP.sub [1, 0] rfl
          have hD : va_D A [(h, .inr (0, [.ref an, .ref am, .ref ak, .ref ap, .ref ac, .int (nI nm), .int (nI cs), .int (nI mk), .int (nI lr)])), (ak, .inl (cK, 10, .inr (.inr (.inr (.inr kf)))))] := hD.sub [1, 0] (by decide) rfl
          refine lv_iload hx hb d_TC_tally_48 (lv_at hl 0 rfl) ?_
          refine lv_goto (tgt := 71) hx hb d_TC_tally_50 (by decide) ?_
          exact ret_i C0 hr hlk hAe hS (cs, kf, none) (⟨0, 0, 0, adK_r (fun _ => by first | (unfold oTy; rw [hno]; rfl) | (rcases hbd with h1 | ⟨a, h1, h2⟩; (unfold oTy; rw [hro]; show (ixN z 6).bind _ = _; rw [hid]; show (ixN v 7).bind _ = _; rw [h1]; rfl); exact oTy_le (b := 0) h1 h2) | (unfold oTy; rw [hro]; show (ixN z 6).bind _ = _; rw [hid]; rfl)) (fun q => by cases q) c_45⟩) hP hD rfl (Nat.le_of_ble_eq_true rfl) (Nat.le_of_ble_eq_true rfl) d_TC_tally_71
      · obtain ⟨a, b, hab, hb30, hxa, hxb, hia, hib⟩ := bnd_t (by decide) c_25
        have hl : lv_has ls 8 [(0, .ref h), (1, .int (nI q)), (2, .int (nI w)), (3, .int (nI d)), (4, .int (nI a)), (5, .int g)] := by rw [← hxa]; exact hl
        have hl : lv_has ls 8 [(0, .ref h), (1, .int (nI q)), (2, .int (nI w)), (3, .int (nI d)), (4, .int (nI a)), (5, .int (nI b))] := by rw [← hxb]; exact hl
        refine lv_iconst (v := (bI true)) hx hb d_TC_tally_28 (by decide) ?_
        refine lv_goto (tgt := 33) hx hb d_TC_tally_29 (by decide) ?_
        refine lv_istore (lv' := [(6, .int (bI true)), (0, .ref h), (1, .int (nI q)), (2, .int (nI w)), (3, .int (nI d)), (4, .int (nI a)), (5, .int (nI b))]) hx hb d_TC_tally_33 hl (by decide) rfl (fun ls hl => ?_)
        refine lv_aload_n hx hb d_TC_tally_35 rfl (lv_at hl 1 rfl) ?_
        refine lv_iload hx hb d_TC_tally_36 (lv_at hl 0 rfl) ?_
        refine call_i (rm := { frames := 0, cells := 0, slots := 0, locals := 0 }) hS hP hD hA (spl_mk (wc := [(h, .inr (0, [.ref an, .ref am, .ref ak, .ref ap, .ref ac, .int (nI nm), .int (nI cs), .int (nI mk), .int (nI lr)]))]) (wr := [(ak, .inl (cK, 10, .inr (.inr (.inr (.inr kf)))))]) [1] [0] rfl rfl (by decide)) (run_v (n := 1) (As := [.int (bI true)]) (rest := []) (q0 := 0) (ci := 0) C0 (hK.sub [] rfl) (c_TC_refusalOfNew l D cI H.size h an am ak ap ac nm cs mk lr true hcs) rfl rfl wt_151 wt_1 wt_148 wt_150 wp_2 (by decide +kernel) ⟨Nat.le_of_ble_eq_true rfl, Nat.le_of_ble_eq_true rfl⟩ rfl hl.1 rfl (Nat.le_of_ble_eq_true rfl) d_TC_tally_38 ⟨Nat.le_of_ble_eq_true rfl, Nat.le_of_ble_eq_true rfl⟩) (fun r_38 _u38 H locs hw_38 hP hD hS => ?_)
        have hP : va_P D cls [(ak, .inl (cK, 10, .inr (.inr (.inr (.inr kf))))), (h, .inr (0, [.ref an, .ref am, .ref ak, .ref ap, .ref ac, .int (nI nm), .int (nI cs), .int (nI mk), .int (nI lr)]))] H := hP
        have hD : va_D A [(ak, .inl (cK, 10, .inr (.inr (.inr (.inr kf))))), (h, .inr (0, [.ref an, .ref am, .ref ak, .ref ap, .ref ac, .int (nI nm), .int (nI cs), .int (nI mk), .int (nI lr)]))] := hD
        subst hw_38
        refine t_eq (y := refI true cs) rfl ?_
        refine lv_istore (lv' := [(7, .int (refI true cs)), (6, .int (bI true)), (0, .ref h), (1, .int (nI q)), (2, .int (nI w)), (3, .int (nI d)), (4, .int (nI a)), (5, .int (nI b))]) hx hb d_TC_tally_41 hl (by decide) rfl (fun ls hl => ?_)
        refine lv_iload hx hb d_TC_tally_43 (lv_at hl 0 rfl) ?_
        refine lv_if_eq (tgt := 53) hx hb d_TC_tally_45 (by decide) (fun c_45 => ?_) (fun c_45 => ?_)
        · obtain ⟨hg, hc10⟩ := refI_0 c_45
          have hoc : oTy nm x y z v g = some (5, q, w, a, b, d) := by unfold oTy; rw [hro]; show (ixN z 6).bind _ = _; rw [hid]; show (ixN v 7).bind _ = _; rw [hia]; show (ixN g 7).bind _ = _; rw [hib]; show (if _ then _ else _) = _; rw [if_pos hab]
          refine lv_aload_n hx hb d_TC_tally_53 rfl (lv_at hl 2 rfl) ?_
          refine r_new C0 hK hP hD hS hA (ci := 8) rfl i_Ty t_Ty k_Ty wt_338 wt_339 wt_12 [.int (nI 0), .int (nI 0), .int (nI 0), .int (nI 0), .int (nI 0), .int (nI 0), .int (nI 0), .int (nI 0), .int (nI 0)] (fun j hj => by rcases (show j = 0 ∨ j = 1 ∨ j = 2 ∨ j = 3 ∨ j = 4 ∨ j = 5 ∨ j = 6 ∨ j = 7 ∨ j = 8 by omega) with rfl | rfl | rfl | rfl | rfl | rfl | rfl | rfl | rfl <;> rfl) (Nat.le_of_ble_eq_true rfl) (Nat.le_of_ble_eq_true rfl) d_TC_tally_54 (fun q54 H hP hD hS => ?_)
          have hP : va_P D cls [(ak, .inl (cK, 10, .inr (.inr (.inr (.inr kf))))), (h, .inr (0, [.ref an, .ref am, .ref ak, .ref ap, .ref ac, .int (nI nm), .int (nI cs), .int (nI mk), .int (nI lr)])), (q54, .inr (8, [.int (nI 0), .int (nI 0), .int (nI 0), .int (nI 0), .int (nI 0), .int (nI 0), .int (nI 0), .int (nI 0), .int (nI 0)]))] H := hP
          have hD : va_D A [(ak, .inl (cK, 10, .inr (.inr (.inr (.inr kf))))), (h, .inr (0, [.ref an, .ref am, .ref ak, .ref ap, .ref ac, .int (nI nm), .int (nI cs), .int (nI mk), .int (nI lr)])), (q54, .inr (8, [.int (nI 0), .int (nI 0), .int (nI 0), .int (nI 0), .int (nI 0), .int (nI 0), .int (nI 0), .int (nI 0), .int (nI 0)]))] := hD
          refine W.widen (k := 1) (n := 9) (Nat.le_of_ble_eq_true rfl) (Nat.le_of_ble_eq_true rfl) ?_
          refine lv_dup hx hb d_TC_tally_57 rfl ?_
          refine lv_iload_n hx hb d_TC_tally_58 rfl (lv_at hl 3 rfl) ?_
          refine lv_iload_n hx hb d_TC_tally_59 rfl (lv_at hl 4 rfl) ?_
          refine lv_iload_n hx hb d_TC_tally_60 rfl (lv_at hl 5 rfl) ?_
          refine lv_iload hx hb d_TC_tally_61 (lv_at hl 6 rfl) ?_
          refine lv_iload hx hb d_TC_tally_63 (lv_at hl 7 rfl) ?_
          refine call_v (rm := { frames := 3, cells := 0, slots := 0, locals := 70 }) hS hP hD hA (spl_mk (wc := [(q54, .inr (8, [.int (nI 0), .int (nI 0), .int (nI 0), .int (nI 0), .int (nI 0), .int (nI 0), .int (nI 0), .int (nI 0), .int (nI 0)]))]) (wr := [(ak, .inl (cK, 10, .inr (.inr (.inr (.inr kf))))), (h, .inr (0, [.ref an, .ref am, .ref ak, .ref ap, .ref ac, .int (nI nm), .int (nI cs), .int (nI mk), .int (nI lr)]))]) [2] [0, 1] rfl rfl (by decide)) (run_I (n := 5) (As := [.int (nI q), .int (nI w), .int (nI d), .int (nI a), .int (nI b)]) (rest := [.ref q54, .ref h]) C0 (hK.sub [] rfl) (c_Ty_init l D cI H.size q54 q w d a b hq.2 (by omega)) rfl wt_342 wt_12 wt_340 wt_341 (by decide +kernel) ⟨Nat.le_of_ble_eq_true rfl, Nat.le_of_ble_eq_true rfl⟩ rfl hl.1 rfl (Nat.le_of_ble_eq_true rfl) d_TC_tally_65 ⟨Nat.le_of_ble_eq_true rfl, Nat.le_of_ble_eq_true rfl⟩) (fun _u65 H locs hw_65 hP hD hS => ?_)
          have hP : va_P D cls [(ak, .inl (cK, 10, .inr (.inr (.inr (.inr kf))))), (h, .inr (0, [.ref an, .ref am, .ref ak, .ref ap, .ref ac, .int (nI nm), .int (nI cs), .int (nI mk), .int (nI lr)])), (q54, .inr (8, [.int (nI 5), .int (nI q), .int (nI w), .int (nI (nsF w q)), .int (nI (dgt w (hpF w q))), .int (nI (hpF w q)), .int (nI d), .int (nI a), .int (nI b)]))] H := hP
          have hD : va_D A [(ak, .inl (cK, 10, .inr (.inr (.inr (.inr kf))))), (h, .inr (0, [.ref an, .ref am, .ref ak, .ref ap, .ref ac, .int (nI nm), .int (nI cs), .int (nI mk), .int (nI lr)])), (q54, .inr (8, [.int (nI 5), .int (nI q), .int (nI w), .int (nI (nsF w q)), .int (nI (dgt w (hpF w q))), .int (nI (hpF w q)), .int (nI d), .int (nI a), .int (nI b)]))] := hD
          refine call_i (rm := { frames := 0, cells := 0, slots := 0, locals := 0 }) hS hP hD hA (spl_mk (wc := [(h, .inr (0, [.ref an, .ref am, .ref ak, .ref ap, .ref ac, .int (nI nm), .int (nI cs), .int (nI mk), .int (nI lr)])), (ak, .inl (cK, 10, .inr (.inr (.inr (.inr kf))))), (q54, .inr (8, [.int (nI 5), .int (nI q), .int (nI w), .int (nI (nsF w q)), .int (nI (dgt w (hpF w q))), .int (nI (hpF w q)), .int (nI d), .int (nI a), .int (nI b)]))]) (wr := []) [1, 0, 2] [] rfl rfl (by decide)) (run_v (n := 1) (As := [.ref q54]) (rest := []) (q0 := 0) (ci := 0) C0 hK (c_TC_add l D cI H.size cM cK h an am ak ap ac nm cs mk lr kf q54 8 ([.int (nI d), .int (nI a), .int (nI b)]) 5 q w (nsF w q) (dgt w (hpF w q)) (hpF w q) hcs ⟨by decide, by decide⟩) rfl rfl wt_207 wt_1 wt_204 wt_206 wp_3 (by decide +kernel) ⟨Nat.le_of_ble_eq_true rfl, Nat.le_of_ble_eq_true rfl⟩ rfl hl.1 rfl (Nat.le_of_ble_eq_true rfl) d_TC_tally_68 ⟨Nat.le_of_ble_eq_true rfl, Nat.le_of_ble_eq_true rfl⟩) (fun r_68 u_68 H locs hw_68 hP hD hS => ?_)
          have hP : va_P D cls [(h, .inr (0, [.ref an, .ref am, .ref ak, .ref ap, .ref ac, .int (nI nm), .int (nI u_68.1), .int (nI mk), .int (nI lr)])), (ak, .inl (cK, 10, .inr (.inr (.inr (.inr u_68.2))))), (q54, .inr (8, [.int (nI 5), .int (nI q), .int (nI w), .int (nI (nsF w q)), .int (nI (dgt w (hpF w q))), .int (nI (hpF w q)), .int (nI d), .int (nI a), .int (nI b)]))] H := hP
          have hD : va_D A [(h, .inr (0, [.ref an, .ref am, .ref ak, .ref ap, .ref ac, .int (nI nm), .int (nI u_68.1), .int (nI mk), .int (nI lr)])), (ak, .inl (cK, 10, .inr (.inr (.inr (.inr u_68.2))))), (q54, .inr (8, [.int (nI 5), .int (nI q), .int (nI w), .int (nI (nsF w q)), .int (nI (dgt w (hpF w q))), .int (nI (hpF w q)), .int (nI d), .int (nI a), .int (nI b)]))] := hD
          obtain ⟨-, hra, hua⟩ := hw_68.resolve_left (fun q => hc10 q.1)
          subst hra
          subst hua
          have hP : va_P D cls [(h, .inr (0, [.ref an, .ref am, .ref ak, .ref ap, .ref ac, .int (nI nm), .int (nI (cs + 1)), .int (nI mk), .int (nI lr)])), (ak, .inl (cK, 10, .inr (.inr (.inr (.inr (va_up kf cs (some q54))))))), (q54, .inr (8, [.int (nI 5), .int (nI q), .int (nI w), .int (nI (nsF w q)), .int (nI (dgt w (hpF w q))), .int (nI (hpF w q)), .int (nI d), .int (nI a), .int (nI b)]))] H := hP
          have hD : va_D A [(h, .inr (0, [.ref an, .ref am, .ref ak, .ref ap, .ref ac, .int (nI nm), .int (nI (cs + 1)), .int (nI mk), .int (nI lr)])), (ak, .inl (cK, 10, .inr (.inr (.inr (.inr (va_up kf cs (some q54))))))), (q54, .inr (8, [.int (nI 5), .int (nI q), .int (nI w), .int (nI (nsF w q)), .int (nI (dgt w (hpF w q))), .int (nI (hpF w q)), .int (nI d), .int (nI a), .int (nI b)]))] := hD
          exact ret_i C0 hr hlk hAe hS (cs + 1, va_up kf cs (some q54), some (kNw 5 q w a b d q54 0 0)) (⟨q54, 0, 0, by rw [hoc]; show _ = (if _ then _ else _); rw [if_neg hc10]⟩) hP hD rfl (Nat.le_of_ble_eq_true rfl) (Nat.le_of_ble_eq_true rfl) d_TC_tally_71
        · have hP : va_P D cls [(h, .inr (0, [.ref an, .ref am, .ref ak, .ref ap, .ref ac, .int (nI nm), .int (nI cs), .int (nI mk), .int (nI lr)])), (ak, .inl (cK, 10, .inr (.inr (.inr (.inr kf)))))] H := hP.sub [1, 0] rfl
          have hD : va_D A [(h, .inr (0, [.ref an, .ref am, .ref ak, .ref ap, .ref ac, .int (nI nm), .int (nI cs), .int (nI mk), .int (nI lr)])), (ak, .inl (cK, 10, .inr (.inr (.inr (.inr kf)))))] := hD.sub [1, 0] (by decide) rfl
          refine lv_iload hx hb d_TC_tally_48 (lv_at hl 0 rfl) ?_
          refine lv_goto (tgt := 71) hx hb d_TC_tally_50 (by decide) ?_
          exact ret_i C0 hr hlk hAe hS (cs, kf, none) (⟨0, 0, 0, adK_r (g := true) (fun q => by cases q) (fun _ => ⟨_, by unfold oTy; rw [hro]; show (ixN z 6).bind _ = _; rw [hid]; show (ixN v 7).bind _ = _; rw [hia]; show (ixN g 7).bind _ = _; rw [hib]; show (if _ then _ else _) = _; rw [if_pos hab]⟩) c_45⟩) hP hD rfl (Nat.le_of_ble_eq_true rfl) (Nat.le_of_ble_eq_true rfl) d_TC_tally_71
set_option maxHeartbeats 4000000 in
set_option maxRecDepth 100000 in
theorem c_TC_first (l : Launch) (D : va_G) (cI : ClassId) (sz : Nat) (cM : ClassId) (cK : ClassId) (h : Nat) (an : Nat) (am : Nat) (ak : Nat) (ap : Nat) (ac : Nat) (nm : Nat) (cs : Nat) (mk : Nat) (lr : Nat) (kf : Nat → Option Nat) (x : Int32) (y : Int32) (z : Int32) (v : Int32) (hcs : cs ≤ 10) (hn6 : nm ≤ 6) : MetI l y_TC_first b_TC_first 6 (some .int) { frames := 4, cells := 1, slots := 8, locals := 94 } D cI (tyT cM cK) sz [(h, .inr (0, [.ref an, .ref am, .ref ak, .ref ap, .ref ac, .int (nI nm), .int (nI cs), .int (nI mk), .int (nI lr)])), (ak, .inl (cK, 10, .inr (.inr (.inr (.inr kf)))))] [.ref h, .int x, .int y, .int z, .int v] (fun (r : Int32) (u : adT) => ∃ ad a1 a2, (r, u) = adK kf cs (oFi nm x y z v) ad a1 a2) (fun u : adT => ([(h, .inr (0, [.ref an, .ref am, .ref ak, .ref ap, .ref ac, .int (nI nm), .int (nI u.1), .int (nI mk), .int (nI lr)])), (ak, .inl (cK, 10, .inr (.inr (.inr (.inr u.2.1)))))] ++ (nwc cI u.2.2))) := by
  refine enter (by decide) (Nat.le_of_ble_eq_true rfl) ?_
  intro p e s m below meth c A ls C0 hr hlk hnm hK hsz hA hAe hP hD hS hl
  have hx := C0.1
  have hb := C0.2.1
  have hl : lv_has ls 6 [(0, .ref h), (1, .int x), (2, .int y), (3, .int z), (4, .int v)] := hl
  refine lv_aload_n hx hb d_TC_first_0 rfl (lv_at hl 0 rfl) ?_
  refine lv_aload_n hx hb d_TC_first_1 rfl (lv_at hl 0 rfl) ?_
  refine lv_iload_n hx hb d_TC_first_2 rfl (lv_at hl 1 rfl) ?_
  refine lv_iload_n hx hb d_TC_first_3 rfl (lv_at hl 2 rfl) ?_
  refine call_i (rm := { frames := 2, cells := 0, slots := 0, locals := 43 }) hS hP hD hA (spl_mk (wc := [(h, .inr (0, [.ref an, .ref am, .ref ak, .ref ap, .ref ac, .int (nI nm), .int (nI cs), .int (nI mk), .int (nI lr)]))]) (wr := [(ak, .inl (cK, 10, .inr (.inr (.inr (.inr kf)))))]) [0] [1] rfl rfl (by decide)) (run_v (n := 2) (As := [.int x, .int y]) (rest := [.ref h]) (q0 := 0) (ci := 0) C0 (hK.sub [] rfl) (c_TC_isRow l D cI s.heap.size h an am ak ap ac nm cs mk lr x y hn6) rfl rfl wt_137 wt_1 wt_134 wt_136 wp_0 (by decide +kernel) ⟨Nat.le_of_ble_eq_true rfl, Nat.le_of_ble_eq_true rfl⟩ rfl hl.1 rfl (Nat.le_of_ble_eq_true rfl) d_TC_first_4 ⟨Nat.le_of_ble_eq_true rfl, Nat.le_of_ble_eq_true rfl⟩) (fun r_4 _u4 H locs hw_4 hP hD hS => ?_)
  have hP : va_P D cls [(ak, .inl (cK, 10, .inr (.inr (.inr (.inr kf))))), (h, .inr (0, [.ref an, .ref am, .ref ak, .ref ap, .ref ac, .int (nI nm), .int (nI cs), .int (nI mk), .int (nI lr)]))] H := hP
  have hD : va_D A [(ak, .inl (cK, 10, .inr (.inr (.inr (.inr kf))))), (h, .inr (0, [.ref an, .ref am, .ref ak, .ref ap, .ref ac, .int (nI nm), .int (nI cs), .int (nI mk), .int (nI lr)]))] := hD
  subst hw_4
  refine y_eq (tgt := 35) hx hb d_TC_first_7 (by decide) (fun c_7 => ?_) (fun c_7 => ?_)
  · have hno : rowO nm x y = none := rowO_n c_7
    refine lv_iconst (v := (bI false)) hx hb d_TC_first_35 (by decide) ?_
    refine call_i (rm := { frames := 0, cells := 0, slots := 0, locals := 0 }) hS hP hD hA (spl_mk (wc := [(h, .inr (0, [.ref an, .ref am, .ref ak, .ref ap, .ref ac, .int (nI nm), .int (nI cs), .int (nI mk), .int (nI lr)]))]) (wr := [(ak, .inl (cK, 10, .inr (.inr (.inr (.inr kf)))))]) [1] [0] rfl rfl (by decide)) (run_v (n := 1) (As := [.int (bI false)]) (rest := []) (q0 := 0) (ci := 0) C0 (hK.sub [] rfl) (c_TC_refusalOfNew l D cI H.size h an am ak ap ac nm cs mk lr false hcs) rfl rfl wt_151 wt_1 wt_148 wt_150 wp_2 (by decide +kernel) ⟨Nat.le_of_ble_eq_true rfl, Nat.le_of_ble_eq_true rfl⟩ rfl hl.1 rfl (Nat.le_of_ble_eq_true rfl) d_TC_first_36 ⟨Nat.le_of_ble_eq_true rfl, Nat.le_of_ble_eq_true rfl⟩) (fun r_36 _u36 H locs hw_36 hP hD hS => ?_)
    have hP : va_P D cls [(ak, .inl (cK, 10, .inr (.inr (.inr (.inr kf))))), (h, .inr (0, [.ref an, .ref am, .ref ak, .ref ap, .ref ac, .int (nI nm), .int (nI cs), .int (nI mk), .int (nI lr)]))] H := hP
    have hD : va_D A [(ak, .inl (cK, 10, .inr (.inr (.inr (.inr kf))))), (h, .inr (0, [.ref an, .ref am, .ref ak, .ref ap, .ref ac, .int (nI nm), .int (nI cs), .int (nI mk), .int (nI lr)]))] := hD
    subst hw_36
    refine t_eq (y := refI false cs) rfl ?_
    refine lv_istore (lv' := [(5, .int (refI false cs)), (0, .ref h), (1, .int x), (2, .int y), (3, .int z), (4, .int v)]) hx hb d_TC_first_39 hl (by decide) rfl (fun ls hl => ?_)
    refine lv_iload hx hb d_TC_first_41 (lv_at hl 0 rfl) ?_
    refine lv_if_eq (tgt := 51) hx hb d_TC_first_43 (by decide) (fun c_43 => ?_) (fun c_43 => ?_)
    · exact absurd (refI_0 c_43).1 (by decide)
    · have hP : va_P D cls [(h, .inr (0, [.ref an, .ref am, .ref ak, .ref ap, .ref ac, .int (nI nm), .int (nI cs), .int (nI mk), .int (nI lr)])), (ak, .inl (cK, 10, .inr (.inr (.inr (.inr kf)))))] H := hP.sub [1, 0] rfl
      have hD : va_D A [(h, .inr (0, [.ref an, .ref am, .ref ak, .ref ap, .ref ac, .int (nI nm), .int (nI cs), .int (nI mk), .int (nI lr)])), (ak, .inl (cK, 10, .inr (.inr (.inr (.inr kf)))))] := hD.sub [1, 0] (by decide) rfl
      refine lv_iload hx hb d_TC_first_46 (lv_at hl 0 rfl) ?_
      refine lv_goto (tgt := 67) hx hb d_TC_first_48 (by decide) ?_
      exact ret_i C0 hr hlk hAe hS (cs, kf, none) (⟨0, 0, 0, adK_r (fun _ => by unfold oFi; first | (rw [hno]; rfl) | (rw [hro]; show (ixN z 6).bind _ = _; rw [hia]; rfl) | (rw [hro]; show (ixN z 6).bind _ = _; rw [hia]; show (ixN v 6).bind _ = _; rw [hib]; rfl) | (rw [hro]; show (ixN z 6).bind _ = _; rw [hia]; show (ixN v 6).bind _ = _; rw [hib]; show (if _ then _ else _) = _; rw [if_pos c_28])) (fun q => by cases q) c_43⟩) hP hD rfl (Nat.le_of_ble_eq_true rfl) (Nat.le_of_ble_eq_true rfl) d_TC_first_67
  · obtain ⟨q, w, hq, hxq, hyw, hwq, hw18, hrw, hro⟩ := rowO_s c_7
    have hl : lv_has ls 6 [(0, .ref h), (1, .int (nI q)), (2, .int y), (3, .int z), (4, .int v)] := by rw [← hxq]; exact hl
    have hl : lv_has ls 6 [(0, .ref h), (1, .int (nI q)), (2, .int (nI w)), (3, .int z), (4, .int v)] := by rw [← hyw]; exact hl
    refine lv_iload_n hx hb d_TC_first_10 rfl (lv_at hl 3 rfl) ?_
    refine call_i (rm := { frames := 1, cells := 0, slots := 0, locals := 22 }) hS hP hD hA (spl_mk (wc := []) (wr := [(ak, .inl (cK, 10, .inr (.inr (.inr (.inr kf))))), (h, .inr (0, [.ref an, .ref am, .ref ak, .ref ap, .ref ac, .int (nI nm), .int (nI cs), .int (nI mk), .int (nI lr)]))]) [] [0, 1] rfl rfl (by decide)) (run_s (n := 1) (As := [.int z]) (rest := [.ref h]) C0 (hK.sub [] rfl) (c_TC_isValue l D cI H.size z) wt_221 wt_1 wt_219 wt_220 (by decide +kernel) ⟨Nat.le_of_ble_eq_true rfl, Nat.le_of_ble_eq_true rfl⟩ rfl hl.1 rfl (Nat.le_of_ble_eq_true rfl) d_TC_first_11 ⟨Nat.le_of_ble_eq_true rfl, Nat.le_of_ble_eq_true rfl⟩) (fun r_11 _u11 H locs hw_11 hP hD hS => ?_)
    have hP : va_P D cls [(ak, .inl (cK, 10, .inr (.inr (.inr (.inr kf))))), (h, .inr (0, [.ref an, .ref am, .ref ak, .ref ap, .ref ac, .int (nI nm), .int (nI cs), .int (nI mk), .int (nI lr)]))] H := hP
    have hD : va_D A [(ak, .inl (cK, 10, .inr (.inr (.inr (.inr kf))))), (h, .inr (0, [.ref an, .ref am, .ref ak, .ref ap, .ref ac, .int (nI nm), .int (nI cs), .int (nI mk), .int (nI lr)]))] := hD
    subst hw_11
    refine y_eq (tgt := 35) hx hb d_TC_first_14 (by decide) (fun c_14 => ?_) (fun c_14 => ?_)
    · have hia := ik_f (by decide) c_14
      refine lv_iconst (v := (bI false)) hx hb d_TC_first_35 (by decide) ?_
      refine call_i (rm := { frames := 0, cells := 0, slots := 0, locals := 0 }) hS hP hD hA (spl_mk (wc := [(h, .inr (0, [.ref an, .ref am, .ref ak, .ref ap, .ref ac, .int (nI nm), .int (nI cs), .int (nI mk), .int (nI lr)]))]) (wr := [(ak, .inl (cK, 10, .inr (.inr (.inr (.inr kf)))))]) [1] [0] rfl rfl (by decide)) (run_v (n := 1) (As := [.int (bI false)]) (rest := []) (q0 := 0) (ci := 0) C0 (hK.sub [] rfl) (c_TC_refusalOfNew l D cI H.size h an am ak ap ac nm cs mk lr false hcs) rfl rfl wt_151 wt_1 wt_148 wt_150 wp_2 (by decide +kernel) ⟨Nat.le_of_ble_eq_true rfl, Nat.le_of_ble_eq_true rfl⟩ rfl hl.1 rfl (Nat.le_of_ble_eq_true rfl) d_TC_first_36 ⟨Nat.le_of_ble_eq_true rfl, Nat.le_of_ble_eq_true rfl⟩) (fun r_36 _u36 H locs hw_36 hP hD hS => ?_)
      have hP : va_P D cls [(ak, .inl (cK, 10, .inr (.inr (.inr (.inr kf))))), (h, .inr (0, [.ref an, .ref am, .ref ak, .ref ap, .ref ac, .int (nI nm), .int (nI cs), .int (nI mk), .int (nI lr)]))] H := hP
      have hD : va_D A [(ak, .inl (cK, 10, .inr (.inr (.inr (.inr kf))))), (h, .inr (0, [.ref an, .ref am, .ref ak, .ref ap, .ref ac, .int (nI nm), .int (nI cs), .int (nI mk), .int (nI lr)]))] := hD
      subst hw_36
      refine t_eq (y := refI false cs) rfl ?_
      refine lv_istore (lv' := [(5, .int (refI false cs)), (0, .ref h), (1, .int (nI q)), (2, .int (nI w)), (3, .int z), (4, .int v)]) hx hb d_TC_first_39 hl (by decide) rfl (fun ls hl => ?_)
      refine lv_iload hx hb d_TC_first_41 (lv_at hl 0 rfl) ?_
      refine lv_if_eq (tgt := 51) hx hb d_TC_first_43 (by decide) (fun c_43 => ?_) (fun c_43 => ?_)
      · exact absurd (refI_0 c_43).1 (by decide)
      · have hP : va_P D cls [(h, .inr (0, [.ref an, .ref am, .ref ak, .ref ap, .ref ac, .int (nI nm), .int (nI cs), .int (nI mk), .int (nI lr)])), (ak, .inl (cK, 10, .inr (.inr (.inr (.inr kf)))))] H := hP.sub [1, 0] rfl
        have hD : va_D A [(h, .inr (0, [.ref an, .ref am, .ref ak, .ref ap, .ref ac, .int (nI nm), .int (nI cs), .int (nI mk), .int (nI lr)])), (ak, .inl (cK, 10, .inr (.inr (.inr (.inr kf)))))] := hD.sub [1, 0] (by decide) rfl
        refine lv_iload hx hb d_TC_first_46 (lv_at hl 0 rfl) ?_
        refine lv_goto (tgt := 67) hx hb d_TC_first_48 (by decide) ?_
        exact ret_i C0 hr hlk hAe hS (cs, kf, none) (⟨0, 0, 0, adK_r (fun _ => by unfold oFi; first | (rw [hno]; rfl) | (rw [hro]; show (ixN z 6).bind _ = _; rw [hia]; rfl) | (rw [hro]; show (ixN z 6).bind _ = _; rw [hia]; show (ixN v 6).bind _ = _; rw [hib]; rfl) | (rw [hro]; show (ixN z 6).bind _ = _; rw [hia]; show (ixN v 6).bind _ = _; rw [hib]; show (if _ then _ else _) = _; rw [if_pos c_28])) (fun q => by cases q) c_43⟩) hP hD rfl (Nat.le_of_ble_eq_true rfl) (Nat.le_of_ble_eq_true rfl) d_TC_first_67
    · obtain ⟨a, hla, hxa, hia⟩ := ik_t (by decide) c_14
      have hl : lv_has ls 6 [(0, .ref h), (1, .int (nI q)), (2, .int (nI w)), (3, .int (nI a)), (4, .int v)] := by rw [← hxa]; exact hl
      refine lv_iload hx hb d_TC_first_17 (lv_at hl 4 rfl) ?_
      refine call_i (rm := { frames := 1, cells := 0, slots := 0, locals := 22 }) hS hP hD hA (spl_mk (wc := []) (wr := [(ak, .inl (cK, 10, .inr (.inr (.inr (.inr kf))))), (h, .inr (0, [.ref an, .ref am, .ref ak, .ref ap, .ref ac, .int (nI nm), .int (nI cs), .int (nI mk), .int (nI lr)]))]) [] [0, 1] rfl rfl (by decide)) (run_s (n := 1) (As := [.int v]) (rest := [.ref h]) C0 (hK.sub [] rfl) (c_TC_isValue l D cI H.size v) wt_221 wt_1 wt_219 wt_220 (by decide +kernel) ⟨Nat.le_of_ble_eq_true rfl, Nat.le_of_ble_eq_true rfl⟩ rfl hl.1 rfl (Nat.le_of_ble_eq_true rfl) d_TC_first_19 ⟨Nat.le_of_ble_eq_true rfl, Nat.le_of_ble_eq_true rfl⟩) (fun r_19 _u19 H locs hw_19 hP hD hS => ?_)
      have hP : va_P D cls [(ak, .inl (cK, 10, .inr (.inr (.inr (.inr kf))))), (h, .inr (0, [.ref an, .ref am, .ref ak, .ref ap, .ref ac, .int (nI nm), .int (nI cs), .int (nI mk), .int (nI lr)]))] H := hP
      have hD : va_D A [(ak, .inl (cK, 10, .inr (.inr (.inr (.inr kf))))), (h, .inr (0, [.ref an, .ref am, .ref ak, .ref ap, .ref ac, .int (nI nm), .int (nI cs), .int (nI mk), .int (nI lr)]))] := hD
      subst hw_19
      refine y_eq (tgt := 35) hx hb d_TC_first_22 (by decide) (fun c_22 => ?_) (fun c_22 => ?_)
      · have hib := ik_f (by decide) c_22
        refine lv_iconst (v := (bI false)) hx hb d_TC_first_35 (by decide) ?_
        refine call_i (rm := { frames := 0, cells := 0, slots := 0, locals := 0 }) hS hP hD hA (spl_mk (wc := [(h, .inr (0, [.ref an, .ref am, .ref ak, .ref ap, .ref ac, .int (nI nm), .int (nI cs), .int (nI mk), .int (nI lr)]))]) (wr := [(ak, .inl (cK, 10, .inr (.inr (.inr (.inr kf)))))]) [1] [0] rfl rfl (by decide)) (run_v (n := 1) (As := [.int (bI false)]) (rest := []) (q0 := 0) (ci := 0) C0 (hK.sub [] rfl) (c_TC_refusalOfNew l D cI H.size h an am ak ap ac nm cs mk lr false hcs) rfl rfl wt_151 wt_1 wt_148 wt_150 wp_2 (by decide +kernel) ⟨Nat.le_of_ble_eq_true rfl, Nat.le_of_ble_eq_true rfl⟩ rfl hl.1 rfl (Nat.le_of_ble_eq_true rfl) d_TC_first_36 ⟨Nat.le_of_ble_eq_true rfl, Nat.le_of_ble_eq_true rfl⟩) (fun r_36 _u36 H locs hw_36 hP hD hS => ?_)
        have hP : va_P D cls [(ak, .inl (cK, 10, .inr (.inr (.inr (.inr kf))))), (h, .inr (0, [.ref an, .ref am, .ref ak, .ref ap, .ref ac, .int (nI nm), .int (nI cs), .int (nI mk), .int (nI lr)]))] H := hP
        have hD : va_D A [(ak, .inl (cK, 10, .inr (.inr (.inr (.inr kf))))), (h, .inr (0, [.ref an, .ref am, .ref ak, .ref ap, .ref ac, .int (nI nm), .int (nI cs), .int (nI mk), .int (nI lr)]))] := hD
        subst hw_36
        refine t_eq (y := refI false cs) rfl ?_
        refine lv_istore (lv' := [(5, .int (refI false cs)), (0, .ref h), (1, .int (nI q)), (2, .int (nI w)), (3, .int (nI a)), (4, .int v)]) hx hb d_TC_first_39 hl (by decide) rfl (fun ls hl => ?_)
        refine lv_iload hx hb d_TC_first_41 (lv_at hl 0 rfl) ?_
        refine lv_if_eq (tgt := 51) hx hb d_TC_first_43 (by decide) (fun c_43 => ?_) (fun c_43 => ?_)
        · exact absurd (refI_0 c_43).1 (by decide)
        · have hP : va_P D cls [(h, .inr (0, [.ref an, .ref am, .ref ak, .ref ap, .ref ac, .int (nI nm), .int (nI cs), .int (nI mk), .int (nI lr)])), (ak, .inl (cK, 10, .inr (.inr (.inr (.inr kf)))))] H := hP.sub [1, 0] rfl
          have hD : va_D A [(h, .inr (0, [.ref an, .ref am, .ref ak, .ref ap, .ref ac, .int (nI nm), .int (nI cs), .int (nI mk), .int (nI lr)])), (ak, .inl (cK, 10, .inr (.inr (.inr (.inr kf)))))] := hD.sub [1, 0] (by decide) rfl
          refine lv_iload hx hb d_TC_first_46 (lv_at hl 0 rfl) ?_
          refine lv_goto (tgt := 67) hx hb d_TC_first_48 (by decide) ?_
          exact ret_i C0 hr hlk hAe hS (cs, kf, none) (⟨0, 0, 0, adK_r (fun _ => by unfold oFi; first | (rw [hno]; rfl) | (rw [hro]; show (ixN z 6).bind _ = _; rw [hia]; rfl) | (rw [hro]; show (ixN z 6).bind _ = _; rw [hia]; show (ixN v 6).bind _ = _; rw [hib]; rfl) | (rw [hro]; show (ixN z 6).bind _ = _; rw [hia]; show (ixN v 6).bind _ = _; rw [hib]; show (if _ then _ else _) = _; rw [if_pos c_28])) (fun q => by cases q) c_43⟩) hP hD rfl (Nat.le_of_ble_eq_true rfl) (Nat.le_of_ble_eq_true rfl) d_TC_first_67
      · obtain ⟨b, hlb, hxb, hib⟩ := ik_t (by decide) c_22
        have hl : lv_has ls 6 [(0, .ref h), (1, .int (nI q)), (2, .int (nI w)), (3, .int (nI a)), (4, .int (nI b))] := by rw [← hxb]; exact hl
        refine lv_iload_n hx hb d_TC_first_25 rfl (lv_at hl 3 rfl) ?_
        refine lv_iload hx hb d_TC_first_26 (lv_at hl 4 rfl) ?_
        refine b_eq (tgt := 35) hx hb (by omega) (by omega) d_TC_first_28 (by decide) (fun c_28 => ?_) (fun c_28 => ?_)
        · refine lv_iconst (v := (bI false)) hx hb d_TC_first_35 (by decide) ?_
          refine call_i (rm := { frames := 0, cells := 0, slots := 0, locals := 0 }) hS hP hD hA (spl_mk (wc := [(h, .inr (0, [.ref an, .ref am, .ref ak, .ref ap, .ref ac, .int (nI nm), .int (nI cs), .int (nI mk), .int (nI lr)]))]) (wr := [(ak, .inl (cK, 10, .inr (.inr (.inr (.inr kf)))))]) [1] [0] rfl rfl (by decide)) (run_v (n := 1) (As := [.int (bI false)]) (rest := []) (q0 := 0) (ci := 0) C0 (hK.sub [] rfl) (c_TC_refusalOfNew l D cI H.size h an am ak ap ac nm cs mk lr false hcs) rfl rfl wt_151 wt_1 wt_148 wt_150 wp_2 (by decide +kernel) ⟨Nat.le_of_ble_eq_true rfl, Nat.le_of_ble_eq_true rfl⟩ rfl hl.1 rfl (Nat.le_of_ble_eq_true rfl) d_TC_first_36 ⟨Nat.le_of_ble_eq_true rfl, Nat.le_of_ble_eq_true rfl⟩) (fun r_36 _u36 H locs hw_36 hP hD hS => ?_)
          have hP : va_P D cls [(ak, .inl (cK, 10, .inr (.inr (.inr (.inr kf))))), (h, .inr (0, [.ref an, .ref am, .ref ak, .ref ap, .ref ac, .int (nI nm), .int (nI cs), .int (nI mk), .int (nI lr)]))] H := hP
          have hD : va_D A [(ak, .inl (cK, 10, .inr (.inr (.inr (.inr kf))))), (h, .inr (0, [.ref an, .ref am, .ref ak, .ref ap, .ref ac, .int (nI nm), .int (nI cs), .int (nI mk), .int (nI lr)]))] := hD
          subst hw_36
          refine t_eq (y := refI false cs) rfl ?_
          refine lv_istore (lv' := [(5, .int (refI false cs)), (0, .ref h), (1, .int (nI q)), (2, .int (nI w)), (3, .int (nI a)), (4, .int (nI b))]) hx hb d_TC_first_39 hl (by decide) rfl (fun ls hl => ?_)
          refine lv_iload hx hb d_TC_first_41 (lv_at hl 0 rfl) ?_
          refine lv_if_eq (tgt := 51) hx hb d_TC_first_43 (by decide) (fun c_43 => ?_) (fun c_43 => ?_)
          · exact absurd (refI_0 c_43).1 (by decide)
          · have hP : va_P D cls [(h, .inr (0, [.ref an, .ref am, .ref ak, .ref ap, .ref ac, .int (nI nm), .int (nI cs), .int (nI mk), .int (nI lr)])), (ak, .inl (cK, 10, .inr (.inr (.inr (.inr kf)))))] H := hP.sub [1, 0] rfl
            have hD : va_D A [(h, .inr (0, [.ref an, .ref am, .ref ak, .ref ap, .ref ac, .int (nI nm), .int (nI cs), .int (nI mk), .int (nI lr)])), (ak, .inl (cK, 10, .inr (.inr (.inr (.inr kf)))))] := hD.sub [1, 0] (by decide) rfl
            refine lv_iload hx hb d_TC_first_46 (lv_at hl 0 rfl) ?_
            refine lv_goto (tgt := 67) hx hb d_TC_first_48 (by decide) ?_
            exact ret_i C0 hr hlk hAe hS (cs, kf, none) (⟨0, 0, 0, adK_r (fun _ => by unfold oFi; first | (rw [hno]; rfl) | (rw [hro]; show (ixN z 6).bind _ = _; rw [hia]; rfl) | (rw [hro]; show (ixN z 6).bind _ = _; rw [hia]; show (ixN v 6).bind _ = _; rw [hib]; rfl) | (rw [hro]; show (ixN z 6).bind _ = _; rw [hia]; show (ixN v 6).bind _ = _; rw [hib]; show (if _ then _ else _) = _; rw [if_pos c_28])) (fun q => by cases q) c_43⟩) hP hD rfl (Nat.le_of_ble_eq_true rfl) (Nat.le_of_ble_eq_true rfl) d_TC_first_67
        · refine lv_iconst (v := (bI true)) hx hb d_TC_first_31 (by decide) ?_
          refine lv_goto (tgt := 36) hx hb d_TC_first_32 (by decide) ?_
          refine call_i (rm := { frames := 0, cells := 0, slots := 0, locals := 0 }) hS hP hD hA (spl_mk (wc := [(h, .inr (0, [.ref an, .ref am, .ref ak, .ref ap, .ref ac, .int (nI nm), .int (nI cs), .int (nI mk), .int (nI lr)]))]) (wr := [(ak, .inl (cK, 10, .inr (.inr (.inr (.inr kf)))))]) [1] [0] rfl rfl (by decide)) (run_v (n := 1) (As := [.int (bI true)]) (rest := []) (q0 := 0) (ci := 0) C0 (hK.sub [] rfl) (c_TC_refusalOfNew l D cI H.size h an am ak ap ac nm cs mk lr true hcs) rfl rfl wt_151 wt_1 wt_148 wt_150 wp_2 (by decide +kernel) ⟨Nat.le_of_ble_eq_true rfl, Nat.le_of_ble_eq_true rfl⟩ rfl hl.1 rfl (Nat.le_of_ble_eq_true rfl) d_TC_first_36 ⟨Nat.le_of_ble_eq_true rfl, Nat.le_of_ble_eq_true rfl⟩) (fun r_36 _u36 H locs hw_36 hP hD hS => ?_)
          have hP : va_P D cls [(ak, .inl (cK, 10, .inr (.inr (.inr (.inr kf))))), (h, .inr (0, [.ref an, .ref am, .ref ak, .ref ap, .ref ac, .int (nI nm), .int (nI cs), .int (nI mk), .int (nI lr)]))] H := hP
          have hD : va_D A [(ak, .inl (cK, 10, .inr (.inr (.inr (.inr kf))))), (h, .inr (0, [.ref an, .ref am, .ref ak, .ref ap, .ref ac, .int (nI nm), .int (nI cs), .int (nI mk), .int (nI lr)]))] := hD
          subst hw_36
          refine t_eq (y := refI true cs) rfl ?_
          refine lv_istore (lv' := [(5, .int (refI true cs)), (0, .ref h), (1, .int (nI q)), (2, .int (nI w)), (3, .int (nI a)), (4, .int (nI b))]) hx hb d_TC_first_39 hl (by decide) rfl (fun ls hl => ?_)
          refine lv_iload hx hb d_TC_first_41 (lv_at hl 0 rfl) ?_
          refine lv_if_eq (tgt := 51) hx hb d_TC_first_43 (by decide) (fun c_43 => ?_) (fun c_43 => ?_)
          · obtain ⟨hg, hc10⟩ := refI_0 c_43
            have hoc : oFi nm x y z v = some (6, q, w, a, b, 0) := by unfold oFi; rw [hro]; show (ixN z 6).bind _ = _; rw [hia]; show (ixN v 6).bind _ = _; rw [hib]; show (if _ then _ else _) = _; rw [if_neg c_28]
            refine lv_aload_n hx hb d_TC_first_51 rfl (lv_at hl 1 rfl) ?_
            refine r_new C0 hK hP hD hS hA (ci := 9) rfl i_Fi t_Fi k_Fi wt_364 wt_365 wt_13 [.int (nI 0), .int (nI 0), .int (nI 0), .int (nI 0), .int (nI 0), .int (nI 0), .int (nI 0), .int (nI 0)] (fun j hj => by rcases (show j = 0 ∨ j = 1 ∨ j = 2 ∨ j = 3 ∨ j = 4 ∨ j = 5 ∨ j = 6 ∨ j = 7 by omega) with rfl | rfl | rfl | rfl | rfl | rfl | rfl | rfl <;> rfl) (Nat.le_of_ble_eq_true rfl) (Nat.le_of_ble_eq_true rfl) d_TC_first_52 (fun q52 H hP hD hS => ?_)
            have hP : va_P D cls [(ak, .inl (cK, 10, .inr (.inr (.inr (.inr kf))))), (h, .inr (0, [.ref an, .ref am, .ref ak, .ref ap, .ref ac, .int (nI nm), .int (nI cs), .int (nI mk), .int (nI lr)])), (q52, .inr (9, [.int (nI 0), .int (nI 0), .int (nI 0), .int (nI 0), .int (nI 0), .int (nI 0), .int (nI 0), .int (nI 0)]))] H := hP
            have hD : va_D A [(ak, .inl (cK, 10, .inr (.inr (.inr (.inr kf))))), (h, .inr (0, [.ref an, .ref am, .ref ak, .ref ap, .ref ac, .int (nI nm), .int (nI cs), .int (nI mk), .int (nI lr)])), (q52, .inr (9, [.int (nI 0), .int (nI 0), .int (nI 0), .int (nI 0), .int (nI 0), .int (nI 0), .int (nI 0), .int (nI 0)]))] := hD
            refine W.widen (k := 1) (n := 8) (Nat.le_of_ble_eq_true rfl) (Nat.le_of_ble_eq_true rfl) ?_
            refine lv_dup hx hb d_TC_first_55 rfl ?_
            refine lv_iload_n hx hb d_TC_first_56 rfl (lv_at hl 2 rfl) ?_
            refine lv_iload_n hx hb d_TC_first_57 rfl (lv_at hl 3 rfl) ?_
            refine lv_iload_n hx hb d_TC_first_58 rfl (lv_at hl 4 rfl) ?_
            refine lv_iload hx hb d_TC_first_59 (lv_at hl 5 rfl) ?_
            refine call_v (rm := { frames := 3, cells := 0, slots := 0, locals := 70 }) hS hP hD hA (spl_mk (wc := [(q52, .inr (9, [.int (nI 0), .int (nI 0), .int (nI 0), .int (nI 0), .int (nI 0), .int (nI 0), .int (nI 0), .int (nI 0)]))]) (wr := [(ak, .inl (cK, 10, .inr (.inr (.inr (.inr kf))))), (h, .inr (0, [.ref an, .ref am, .ref ak, .ref ap, .ref ac, .int (nI nm), .int (nI cs), .int (nI mk), .int (nI lr)]))]) [2] [0, 1] rfl rfl (by decide)) (run_I (n := 4) (As := [.int (nI q), .int (nI w), .int (nI a), .int (nI b)]) (rest := [.ref q52, .ref h]) C0 (hK.sub [] rfl) (c_Fi_init l D cI H.size q52 q w a b hq.2 (by omega)) rfl wt_368 wt_13 wt_366 wt_367 (by decide +kernel) ⟨Nat.le_of_ble_eq_true rfl, Nat.le_of_ble_eq_true rfl⟩ rfl hl.1 rfl (Nat.le_of_ble_eq_true rfl) d_TC_first_61 ⟨Nat.le_of_ble_eq_true rfl, Nat.le_of_ble_eq_true rfl⟩) (fun _u61 H locs hw_61 hP hD hS => ?_)
            have hP : va_P D cls [(ak, .inl (cK, 10, .inr (.inr (.inr (.inr kf))))), (h, .inr (0, [.ref an, .ref am, .ref ak, .ref ap, .ref ac, .int (nI nm), .int (nI cs), .int (nI mk), .int (nI lr)])), (q52, .inr (9, [.int (nI 6), .int (nI q), .int (nI w), .int (nI (nsF w q)), .int (nI (dgt w (hpF w q))), .int (nI (hpF w q)), .int (nI a), .int (nI b)]))] H := hP
            have hD : va_D A [(ak, .inl (cK, 10, .inr (.inr (.inr (.inr kf))))), (h, .inr (0, [.ref an, .ref am, .ref ak, .ref ap, .ref ac, .int (nI nm), .int (nI cs), .int (nI mk), .int (nI lr)])), (q52, .inr (9, [.int (nI 6), .int (nI q), .int (nI w), .int (nI (nsF w q)), .int (nI (dgt w (hpF w q))), .int (nI (hpF w q)), .int (nI a), .int (nI b)]))] := hD
            refine call_i (rm := { frames := 0, cells := 0, slots := 0, locals := 0 }) hS hP hD hA (spl_mk (wc := [(h, .inr (0, [.ref an, .ref am, .ref ak, .ref ap, .ref ac, .int (nI nm), .int (nI cs), .int (nI mk), .int (nI lr)])), (ak, .inl (cK, 10, .inr (.inr (.inr (.inr kf))))), (q52, .inr (9, [.int (nI 6), .int (nI q), .int (nI w), .int (nI (nsF w q)), .int (nI (dgt w (hpF w q))), .int (nI (hpF w q)), .int (nI a), .int (nI b)]))]) (wr := []) [1, 0, 2] [] rfl rfl (by decide)) (run_v (n := 1) (As := [.ref q52]) (rest := []) (q0 := 0) (ci := 0) C0 hK (c_TC_add l D cI H.size cM cK h an am ak ap ac nm cs mk lr kf q52 9 ([.int (nI a), .int (nI b)]) 6 q w (nsF w q) (dgt w (hpF w q)) (hpF w q) hcs ⟨by decide, by decide⟩) rfl rfl wt_207 wt_1 wt_204 wt_206 wp_3 (by decide +kernel) ⟨Nat.le_of_ble_eq_true rfl, Nat.le_of_ble_eq_true rfl⟩ rfl hl.1 rfl (Nat.le_of_ble_eq_true rfl) d_TC_first_64 ⟨Nat.le_of_ble_eq_true rfl, Nat.le_of_ble_eq_true rfl⟩) (fun r_64 u_64 H locs hw_64 hP hD hS => ?_)
            have hP : va_P D cls [(h, .inr (0, [.ref an, .ref am, .ref ak, .ref ap, .ref ac, .int (nI nm), .int (nI u_64.1), .int (nI mk), .int (nI lr)])), (ak, .inl (cK, 10, .inr (.inr (.inr (.inr u_64.2))))), (q52, .inr (9, [.int (nI 6), .int (nI q), .int (nI w), .int (nI (nsF w q)), .int (nI (dgt w (hpF w q))), .int (nI (hpF w q)), .int (nI a), .int (nI b)]))] H := hP
            have hD : va_D A [(h, .inr (0, [.ref an, .ref am, .ref ak, .ref ap, .ref ac, .int (nI nm), .int (nI u_64.1), .int (nI mk), .int (nI lr)])), (ak, .inl (cK, 10, .inr (.inr (.inr (.inr u_64.2))))), (q52, .inr (9, [.int (nI 6), .int (nI q), .int (nI w), .int (nI (nsF w q)), .int (nI (dgt w (hpF w q))), .int (nI (hpF w q)), .int (nI a), .int (nI b)]))] := hD
            obtain ⟨-, hra, hua⟩ := hw_64.resolve_left (fun q => hc10 q.1)
            subst hra
            subst hua
            have hP : va_P D cls [(h, .inr (0, [.ref an, .ref am, .ref ak, .ref ap, .ref ac, .int (nI nm), .int (nI (cs + 1)), .int (nI mk), .int (nI lr)])), (ak, .inl (cK, 10, .inr (.inr (.inr (.inr (va_up kf cs (some q52))))))), (q52, .inr (9, [.int (nI 6), .int (nI q), .int (nI w), .int (nI (nsF w q)), .int (nI (dgt w (hpF w q))), .int (nI (hpF w q)), .int (nI a), .int (nI b)]))] H := hP
            have hD : va_D A [(h, .inr (0, [.ref an, .ref am, .ref ak, .ref ap, .ref ac, .int (nI nm), .int (nI (cs + 1)), .int (nI mk), .int (nI lr)])), (ak, .inl (cK, 10, .inr (.inr (.inr (.inr (va_up kf cs (some q52))))))), (q52, .inr (9, [.int (nI 6), .int (nI q), .int (nI w), .int (nI (nsF w q)), .int (nI (dgt w (hpF w q))), .int (nI (hpF w q)), .int (nI a), .int (nI b)]))] := hD
            exact ret_i C0 hr hlk hAe hS (cs + 1, va_up kf cs (some q52), some (kNw 6 q w a b 0 q52 0 0)) (⟨q52, 0, 0, by rw [hoc]; show _ = (if _ then _ else _); rw [if_neg hc10]⟩) hP hD rfl (Nat.le_of_ble_eq_true rfl) (Nat.le_of_ble_eq_true rfl) d_TC_first_67
          · have hP : va_P D cls [(h, .inr (0, [.ref an, .ref am, .ref ak, .ref ap, .ref ac, .int (nI nm), .int (nI cs), .int (nI mk), .int (nI lr)])), (ak, .inl (cK, 10, .inr (.inr (.inr (.inr kf)))))] H := hP.sub [1, 0] rfl
            have hD : va_D A [(h, .inr (0, [.ref an, .ref am, .ref ak, .ref ap, .ref ac, .int (nI nm), .int (nI cs), .int (nI mk), .int (nI lr)])), (ak, .inl (cK, 10, .inr (.inr (.inr (.inr kf)))))] := hD.sub [1, 0] (by decide) rfl
            refine lv_iload hx hb d_TC_first_46 (lv_at hl 0 rfl) ?_
            refine lv_goto (tgt := 67) hx hb d_TC_first_48 (by decide) ?_
            exact ret_i C0 hr hlk hAe hS (cs, kf, none) (⟨0, 0, 0, adK_r (g := true) (fun q => by cases q) (fun _ => ⟨_, by unfold oFi; rw [hro]; show (ixN z 6).bind _ = _; rw [hia]; show (ixN v 6).bind _ = _; rw [hib]; show (if _ then _ else _) = _; rw [if_neg c_28]⟩) c_43⟩) hP hD rfl (Nat.le_of_ble_eq_true rfl) (Nat.le_of_ble_eq_true rfl) d_TC_first_67
