def tlF (wo : Nat → Nat) (z : Nat) : Nat → Nat := fun i => if wo i = z then 1 else 0
def firB (wo : Nat → Nat) (a b : Nat) (j : Nat) : Bool := !decide (wo j = b) || anyB (fun i => decide (wo i = a)) j
/-- whether a word is allowed, by kind -/
def alw (kd nn a b z : Nat) (tB : Bool) (cO : Option Nat) (wo : Nat → Nat) : Bool :=
  if kd = 0 then tB else if kd = 1 then (match cO with
    | none => false
    | some y => decide (y ≤ b)) else if kd = 2 then decide (wo 0 < nn - 2) && decide (wo (2 + wo 0) = wo 1) else if kd = 3 then ordB wo (nn / 2) a (nn / 2) 0 else if kd = 4 then decide (a ≤ sm wo nn) && decide (sm wo nn ≤ b) else if kd = 5 then decide (a ≤ sm (tlF wo z) nn) && decide (sm (tlF wo z) nn ≤ b) else allB (firB wo a b) nn
theorem sm_lt6 {f : Nat → Nat} {i : Nat} (h : ∀ v, f v ≤ 6) (hi : i ≤ 6) : sm f i ≤ 36 := by
  have := sm_le h i
  omega
theorem sm_congr {f g : Nat → Nat} (h : ∀ v, f v = g v) : ∀ i, sm f i = sm g i
  | 0 => rfl
  | i + 1 => by
    show sm f i + f i = sm g i + g i
    rw [sm_congr h i, h i]
set_option maxHeartbeats 4000000 in
set_option maxRecDepth 100000 in
theorem c_M_isAllowed (l : Launch) (D : va_G) (cI : ClassId) (sz : Nat) (h : Nat) (ad : Nat → Nat) (nm : Nat) (mk : Nat) (rd : Nat) (cs : Nat) (ki : Nat → Nat) (wi : Nat → Nat) (lw : Nat → Nat) (hg : Nat → Nat) (wh : Nat → Nat) (mn : Nat → Nat) (tu : Nat → Nat) (sf : Nat → Nat) (sv : Nat → Nat) (so : Nat → Nat) (sc : Nat → Nat) (wo : Nat → Nat) (co : Nat → Option Nat) (af : Nat → Option Nat) (k : Nat) (hk : k < 10) (hki : ki k ≤ 6) (hwi : wi k ≤ 6) (hw3 : ki k = 2 → 3 ≤ wi k) (hmn : mn k ≤ 30) (hmt : ki k = 0 → mn k ≤ 20) (hlw : lw k < 64) (hhg : hg k ≤ 1000) (hwh : wh k < 6) (htu : ∀ j, tu j < 2147483648) (hsf : ∀ j, sf j < 6) (hsv : ∀ j, sv j < 6) (hso : ∀ j, so j < 6) (hsc : ∀ j, sc j ≤ 100) (hwo : ∀ j, wo j < 6) : MetI l y_M_isAllowed b_M_isAllowed 6 (some .boolean) { frames := 1, cells := 0, slots := 0, locals := 25 } D cI [] sz [(h, .inr (10, oM ad nm mk rd cs)), (ad 10, .inl (cI, 10, .inl (nA ki))), (ad 11, .inl (cI, 10, .inl (nA wi))), (ad 14, .inl (cI, 10, .inl (nA lw))), (ad 15, .inl (cI, 10, .inl (nA hg))), (ad 16, .inl (cI, 10, .inl (nA wh))), (ad 17, .inl (cI, 10, .inl (nA mn))), (ad 18, .inl (cI, 200, .inl (nA tu))), (ad 19, .inl (cI, 300, .inl (nA sf))), (ad 20, .inl (cI, 300, .inl (nA sv))), (ad 21, .inl (cI, 300, .inl (nA so))), (ad 22, .inl (cI, 300, .inl (nA sc))), (ad 23, .inl (cI, 6, .inl (nA wo))), (ad 24, .inl (cI, 6, .inl (oA co))), (ad 25, .inl (cI, 6, .inl (oA af)))] [.ref h, .int (nI k)] (fun (r : Int32) (u : (Nat → Option Nat) × (Nat → Option Nat)) => r = bI (alw (ki k) (wi k) (lw k) (hg k) (wh k) (anyB (tupA tu wo k (wi k)) (mn k)) (bsF (lw k) (coP sf sv so sc wo (30 * k) (mn k) (wi k)) 6) wo)) (fun u : (Nat → Option Nat) × (Nat → Option Nat) => [(h, .inr (10, oM ad nm mk rd cs)), (ad 10, .inl (cI, 10, .inl (nA ki))), (ad 11, .inl (cI, 10, .inl (nA wi))), (ad 14, .inl (cI, 10, .inl (nA lw))), (ad 15, .inl (cI, 10, .inl (nA hg))), (ad 16, .inl (cI, 10, .inl (nA wh))), (ad 17, .inl (cI, 10, .inl (nA mn))), (ad 18, .inl (cI, 200, .inl (nA tu))), (ad 19, .inl (cI, 300, .inl (nA sf))), (ad 20, .inl (cI, 300, .inl (nA sv))), (ad 21, .inl (cI, 300, .inl (nA so))), (ad 22, .inl (cI, 300, .inl (nA sc))), (ad 23, .inl (cI, 6, .inl (nA wo))), (ad 24, .inl (cI, 6, .inl (oA u.1))), (ad 25, .inl (cI, 6, .inl (oA u.2)))]) := by
  refine enter (by decide) (Nat.le_of_ble_eq_true rfl) ?_
  intro p e s m below meth c A ls C0 hr hlk hnm hK hsz hA hAe hP hD hS hl
  have hx := C0.1
  have hb := C0.2.1
  have hl : lv_has ls 6 [(0, .ref h), (1, .int (nI k))] := hl
  refine lv_aload_n hx hb d_M_isAllowed_0 rfl (lv_at hl 0 rfl) ?_
  refine r_get C0 hK hP 0 rfl rfl i_M 11 (by decide) wt_674 (fun _ h => h) rfl d_M_isAllowed_1 ?_
  refine lv_iload_n hx hb d_M_isAllowed_4 rfl (lv_at hl 1 rfl) ?_
  refine r_ald C0 hK hP 2 rfl (by omega) (by decide) d_M_isAllowed_5 ?_
  refine t_eq (y := (nI (wi k))) rfl ?_
  refine lv_istore_n (lv' := [(2, .int (nI (wi k))), (0, .ref h), (1, .int (nI k))]) hx hb d_M_isAllowed_6 rfl hl (by decide) rfl (fun ls hl => ?_)
  refine lv_aload_n hx hb d_M_isAllowed_7 rfl (lv_at hl 1 rfl) ?_
  refine r_get C0 hK hP 0 rfl rfl i_M 10 (by decide) wt_673 (fun _ h => h) rfl d_M_isAllowed_8 ?_
  refine lv_iload_n hx hb d_M_isAllowed_11 rfl (lv_at hl 2 rfl) ?_
  refine r_ald C0 hK hP 1 rfl (by omega) (by decide) d_M_isAllowed_12 ?_
  refine t_eq (y := (nI (ki k))) rfl ?_
  refine z_ne (tgt := 22) hx hb (by omega) d_M_isAllowed_13 (by decide) (fun c_13 => ?_) (fun c_13 => ?_)
  · refine lv_aload_n hx hb d_M_isAllowed_22 rfl (lv_at hl 1 rfl) ?_
    refine r_get C0 hK hP 0 rfl rfl i_M 10 (by decide) wt_673 (fun _ h => h) rfl d_M_isAllowed_23 ?_
    refine lv_iload_n hx hb d_M_isAllowed_26 rfl (lv_at hl 2 rfl) ?_
    refine r_ald C0 hK hP 1 rfl (by omega) (by decide) d_M_isAllowed_27 ?_
    refine t_eq (y := (nI (ki k))) rfl ?_
    refine lv_iconst (v := (nI 1)) hx hb d_M_isAllowed_28 (by decide) ?_
    refine b_ne (tgt := 59) hx hb (by omega) (by decide) d_M_isAllowed_29 (by decide) (fun c_29 => ?_) (fun c_29 => ?_)
    · refine lv_aload_n hx hb d_M_isAllowed_59 rfl (lv_at hl 1 rfl) ?_
      refine r_get C0 hK hP 0 rfl rfl i_M 10 (by decide) wt_673 (fun _ h => h) rfl d_M_isAllowed_60 ?_
      refine lv_iload_n hx hb d_M_isAllowed_63 rfl (lv_at hl 2 rfl) ?_
      refine r_ald C0 hK hP 1 rfl (by omega) (by decide) d_M_isAllowed_64 ?_
      refine t_eq (y := (nI (ki k))) rfl ?_
      refine lv_iconst (v := (nI 2)) hx hb d_M_isAllowed_65 (by decide) ?_
      refine b_ne (tgt := 109) hx hb (by omega) (by decide) d_M_isAllowed_66 (by decide) (fun c_66 => ?_) (fun c_66 => ?_)
      · refine lv_aload_n hx hb d_M_isAllowed_109 rfl (lv_at hl 1 rfl) ?_
        refine r_get C0 hK hP 0 rfl rfl i_M 10 (by decide) wt_673 (fun _ h => h) rfl d_M_isAllowed_110 ?_
        refine lv_iload_n hx hb d_M_isAllowed_113 rfl (lv_at hl 2 rfl) ?_
        refine r_ald C0 hK hP 1 rfl (by omega) (by decide) d_M_isAllowed_114 ?_
        refine t_eq (y := (nI (ki k))) rfl ?_
        refine lv_iconst (v := (nI 3)) hx hb d_M_isAllowed_115 (by decide) ?_
        refine b_ne (tgt := 125) hx hb (by omega) (by decide) d_M_isAllowed_116 (by decide) (fun c_116 => ?_) (fun c_116 => ?_)
        · refine lv_aload_n hx hb d_M_isAllowed_125 rfl (lv_at hl 1 rfl) ?_
          refine r_get C0 hK hP 0 rfl rfl i_M 10 (by decide) wt_673 (fun _ h => h) rfl d_M_isAllowed_126 ?_
          refine lv_iload_n hx hb d_M_isAllowed_129 rfl (lv_at hl 2 rfl) ?_
          refine r_ald C0 hK hP 1 rfl (by omega) (by decide) d_M_isAllowed_130 ?_
          refine t_eq (y := (nI (ki k))) rfl ?_
          refine lv_iconst (v := (nI 4)) hx hb d_M_isAllowed_131 (by decide) ?_
          refine b_eq (tgt := 145) hx hb (by omega) (by decide) d_M_isAllowed_132 (by decide) (fun c_132 => ?_) (fun c_132 => ?_)
          · refine lv_iconst (v := (nI 0)) hx hb d_M_isAllowed_145 (by decide) ?_
            refine lv_istore_n (lv' := [(3, .int (nI 0)), (2, .int (nI (wi k))), (0, .ref h), (1, .int (nI k))]) hx hb d_M_isAllowed_146 rfl hl (by decide) rfl (fun ls hl => ?_)
            refine lv_iconst (v := (nI 0)) hx hb d_M_isAllowed_147 (by decide) ?_
            refine lv_istore (lv' := [(4, .int (nI 0)), (3, .int (nI 0)), (2, .int (nI (wi k))), (0, .ref h), (1, .int (nI k))]) hx hb d_M_isAllowed_148 hl (by decide) rfl (fun ls hl => ?_)
            have hl : lv_has ls 6 [(4, .int (nI 0)), (3, .int (nI (sm (fun j => if ki k = 4 then wo j else tlF wo (wh k) j) 0))), (2, .int (nI (wi k))), (0, .ref h), (1, .int (nI k))] := hl
            have L150 : ∀ (fuel150 : Nat) (i : Nat), (i ≤ wi k) → (wi k < i + fuel150) → ∀ (H : Heap) (locs : List Loc) (ls : Array Slot), va_P D cls [(h, .inr (10, oM ad nm mk rd cs)), (ad 10, .inl (cI, 10, .inl (nA ki))), (ad 11, .inl (cI, 10, .inl (nA wi))), (ad 14, .inl (cI, 10, .inl (nA lw))), (ad 15, .inl (cI, 10, .inl (nA hg))), (ad 16, .inl (cI, 10, .inl (nA wh))), (ad 17, .inl (cI, 10, .inl (nA mn))), (ad 18, .inl (cI, 200, .inl (nA tu))), (ad 19, .inl (cI, 300, .inl (nA sf))), (ad 20, .inl (cI, 300, .inl (nA sv))), (ad 21, .inl (cI, 300, .inl (nA so))), (ad 22, .inl (cI, 300, .inl (nA sc))), (ad 23, .inl (cI, 6, .inl (nA wo))), (ad 24, .inl (cI, 6, .inl (oA co))), (ad 25, .inl (cI, 6, .inl (oA af)))] H → va_D A [(h, .inr (10, oM ad nm mk rd cs)), (ad 10, .inl (cI, 10, .inl (nA ki))), (ad 11, .inl (cI, 10, .inl (nA wi))), (ad 14, .inl (cI, 10, .inl (nA lw))), (ad 15, .inl (cI, 10, .inl (nA hg))), (ad 16, .inl (cI, 10, .inl (nA wh))), (ad 17, .inl (cI, 10, .inl (nA mn))), (ad 18, .inl (cI, 200, .inl (nA tu))), (ad 19, .inl (cI, 300, .inl (nA sf))), (ad 20, .inl (cI, 300, .inl (nA sv))), (ad 21, .inl (cI, 300, .inl (nA so))), (ad 22, .inl (cI, 300, .inl (nA sc))), (ad 23, .inl (cI, 6, .inl (nA wo))), (ad 24, .inl (cI, 6, .inl (oA co))), (ad 25, .inl (cI, 6, .inl (oA af)))] → va_S A s.heap H locs → lv_has ls 6 [(4, .int (nI i)), (3, .int (nI (sm (fun j => if ki k = 4 then wo j else tlF wo (wh k) j) i))), (2, .int (nI (wi k))), (0, .ref h), (1, .int (nI k))] → W p l e { frames := 1, cells := 0, slots := 0, locals := 25 } s m ([.ref h, .int (nI k)] : List Value).toArray below meth c H locs 0 0 (MQ below (pstI D [(h, .inr (10, oM ad nm mk rd cs)), (ad 10, .inl (cI, 10, .inl (nA ki))), (ad 11, .inl (cI, 10, .inl (nA wi))), (ad 14, .inl (cI, 10, .inl (nA lw))), (ad 15, .inl (cI, 10, .inl (nA hg))), (ad 16, .inl (cI, 10, .inl (nA wh))), (ad 17, .inl (cI, 10, .inl (nA mn))), (ad 18, .inl (cI, 200, .inl (nA tu))), (ad 19, .inl (cI, 300, .inl (nA sf))), (ad 20, .inl (cI, 300, .inl (nA sv))), (ad 21, .inl (cI, 300, .inl (nA so))), (ad 22, .inl (cI, 300, .inl (nA sc))), (ad 23, .inl (cI, 6, .inl (nA wo))), (ad 24, .inl (cI, 6, .inl (oA co))), (ad 25, .inl (cI, 6, .inl (oA af)))] sz (fun (r : Int32) (u : (Nat → Option Nat) × (Nat → Option Nat)) => r = bI (alw (ki k) (wi k) (lw k) (hg k) (wh k) (anyB (tupA tu wo k (wi k)) (mn k)) (bsF (lw k) (coP sf sv so sc wo (30 * k) (mn k) (wi k)) 6) wo)) (fun u : (Nat → Option Nat) × (Nat → Option Nat) => [(h, .inr (10, oM ad nm mk rd cs)), (ad 10, .inl (cI, 10, .inl (nA ki))), (ad 11, .inl (cI, 10, .inl (nA wi))), (ad 14, .inl (cI, 10, .inl (nA lw))), (ad 15, .inl (cI, 10, .inl (nA hg))), (ad 16, .inl (cI, 10, .inl (nA wh))), (ad 17, .inl (cI, 10, .inl (nA mn))), (ad 18, .inl (cI, 200, .inl (nA tu))), (ad 19, .inl (cI, 300, .inl (nA sf))), (ad 20, .inl (cI, 300, .inl (nA sv))), (ad 21, .inl (cI, 300, .inl (nA so))), (ad 22, .inl (cI, 300, .inl (nA sc))), (ad 23, .inl (cI, 6, .inl (nA wo))), (ad 24, .inl (cI, 6, .inl (oA u.1))), (ad 25, .inl (cI, 6, .inl (oA u.2)))])) ([.ref h, .int (nI k)] : List Value).toArray s 0 0 A) (F0 m 150 ls []) := by
              intro fuel150
              induction fuel150 with
              | zero => intros; omega
              | succ fuel150 ih150 =>
                intro i hi hfu H locs ls hP hD hS hl
                refine lv_iload hx hb d_M_isAllowed_150 (lv_at hl 0 rfl) ?_
                refine lv_iload_n hx hb d_M_isAllowed_152 rfl (lv_at hl 2 rfl) ?_
                refine b_ge (tgt := 206) hx hb (by omega) (by omega) d_M_isAllowed_153 (by decide) (fun c_153 => ?_) (fun c_153 => ?_)
                · have hie : i = wi k := by omega
                  have hsb : sm (fun j => if ki k = 4 then wo j else tlF wo (wh k) j) i ≤ 36 := sm_lt6 (fun v => by show (if _ then _ else (if _ then _ else _)) ≤ 6; have := hwo v; (repeat' split) <;> omega) (by omega)
                  refine lv_iload_n hx hb d_M_isAllowed_206 rfl (lv_at hl 1 rfl) ?_
                  refine lv_aload_n hx hb d_M_isAllowed_207 rfl (lv_at hl 3 rfl) ?_
                  refine r_get C0 hK hP 0 rfl rfl i_M 14 (by decide) wt_677 (fun _ h => h) rfl d_M_isAllowed_208 ?_
                  refine lv_iload_n hx hb d_M_isAllowed_211 rfl (lv_at hl 4 rfl) ?_
                  refine r_ald C0 hK hP 3 rfl (by omega) (by decide) d_M_isAllowed_212 ?_
                  refine t_eq (y := (nI (lw k))) rfl ?_
                  refine lv_aload_n hx hb d_M_isAllowed_213 rfl (lv_at hl 3 rfl) ?_
                  refine r_get C0 hK hP 0 rfl rfl i_M 15 (by decide) wt_678 (fun _ h => h) rfl d_M_isAllowed_214 ?_
                  refine lv_iload_n hx hb d_M_isAllowed_217 rfl (lv_at hl 4 rfl) ?_
                  refine r_ald C0 hK hP 4 rfl (by omega) (by decide) d_M_isAllowed_218 ?_
                  refine t_eq (y := (nI (hg k))) rfl ?_
                  refine call_i (rm := { frames := 0, cells := 0, slots := 0, locals := 0 }) hS hP hD hA (spl_mk (wc := []) (wr := [(h, .inr (10, oM ad nm mk rd cs)), (ad 10, .inl (cI, 10, .inl (nA ki))), (ad 11, .inl (cI, 10, .inl (nA wi))), (ad 14, .inl (cI, 10, .inl (nA lw))), (ad 15, .inl (cI, 10, .inl (nA hg))), (ad 16, .inl (cI, 10, .inl (nA wh))), (ad 17, .inl (cI, 10, .inl (nA mn))), (ad 18, .inl (cI, 200, .inl (nA tu))), (ad 19, .inl (cI, 300, .inl (nA sf))), (ad 20, .inl (cI, 300, .inl (nA sv))), (ad 21, .inl (cI, 300, .inl (nA so))), (ad 22, .inl (cI, 300, .inl (nA sc))), (ad 23, .inl (cI, 6, .inl (nA wo))), (ad 24, .inl (cI, 6, .inl (oA co))), (ad 25, .inl (cI, 6, .inl (oA af)))]) [] [0, 1, 2, 3, 4, 5, 6, 7, 8, 9, 10, 11, 12, 13, 14] rfl rfl (by decide)) (run_s (n := 3) (As := [.int (nI (sm (fun j => if ki k = 4 then wo j else tlF wo (wh k) j) i)), .int (nI (lw k)), .int (nI (hg k))]) (rest := []) C0 (hK.sub [] rfl) (c_M_isIn l D cI H.size (nI (sm (fun j => if ki k = 4 then wo j else tlF wo (wh k) j) i)) (nI (lw k)) (nI (hg k))) wt_758 wt_4 wt_756 wt_757 (by decide +kernel) ⟨Nat.le_of_ble_eq_true rfl, Nat.le_of_ble_eq_true rfl⟩ rfl hl.1 rfl (Nat.le_of_ble_eq_true rfl) d_M_isAllowed_219 ⟨Nat.le_of_ble_eq_true rfl, Nat.le_of_ble_eq_true rfl⟩) (fun r_219 _u219 H locs hw_219 hP hD hS => ?_)
                  have hP : va_P D cls [(h, .inr (10, oM ad nm mk rd cs)), (ad 10, .inl (cI, 10, .inl (nA ki))), (ad 11, .inl (cI, 10, .inl (nA wi))), (ad 14, .inl (cI, 10, .inl (nA lw))), (ad 15, .inl (cI, 10, .inl (nA hg))), (ad 16, .inl (cI, 10, .inl (nA wh))), (ad 17, .inl (cI, 10, .inl (nA mn))), (ad 18, .inl (cI, 200, .inl (nA tu))), (ad 19, .inl (cI, 300, .inl (nA sf))), (ad 20, .inl (cI, 300, .inl (nA sv))), (ad 21, .inl (cI, 300, .inl (nA so))), (ad 22, .inl (cI, 300, .inl (nA sc))), (ad 23, .inl (cI, 6, .inl (nA wo))), (ad 24, .inl (cI, 6, .inl (oA co))), (ad 25, .inl (cI, 6, .inl (oA af)))] H := hP
                  have hD : va_D A [(h, .inr (10, oM ad nm mk rd cs)), (ad 10, .inl (cI, 10, .inl (nA ki))), (ad 11, .inl (cI, 10, .inl (nA wi))), (ad 14, .inl (cI, 10, .inl (nA lw))), (ad 15, .inl (cI, 10, .inl (nA hg))), (ad 16, .inl (cI, 10, .inl (nA wh))), (ad 17, .inl (cI, 10, .inl (nA mn))), (ad 18, .inl (cI, 200, .inl (nA tu))), (ad 19, .inl (cI, 300, .inl (nA sf))), (ad 20, .inl (cI, 300, .inl (nA sv))), (ad 21, .inl (cI, 300, .inl (nA so))), (ad 22, .inl (cI, 300, .inl (nA sc))), (ad 23, .inl (cI, 6, .inl (nA wo))), (ad 24, .inl (cI, 6, .inl (oA co))), (ad 25, .inl (cI, 6, .inl (oA af)))] := hD
                  subst hw_219
                  refine t_eq (y := bI (decide (lw k ≤ sm (fun j => if ki k = 4 then wo j else tlF wo (wh k) j) i) && decide (sm (fun j => if ki k = 4 then wo j else tlF wo (wh k) j) i ≤ hg k))) (by rw [decide_eq_decide.mpr (nI_leI (by omega) (by omega)), decide_eq_decide.mpr (nI_leI (by omega) (by omega))]) ?_
                  have h45 : ki k = 4 ∨ ki k = 5 := by omega
                  have hne : ¬ ki k = 0 ∧ ¬ ki k = 1 ∧ ¬ ki k = 2 ∧ ¬ ki k = 3 := by omega
                  have hpo : bI (decide (lw k ≤ sm (fun j => if ki k = 4 then wo j else tlF wo (wh k) j) i) && decide (sm (fun j => if ki k = 4 then wo j else tlF wo (wh k) j) i ≤ hg k)) = bI (alw (ki k) (wi k) (lw k) (hg k) (wh k) (anyB (tupA tu wo k (wi k)) (mn k)) (bsF (lw k) (coP sf sv so sc wo (30 * k) (mn k) (wi k)) 6) wo) := by
                    unfold alw
                    rw [if_neg hne.1, if_neg hne.2.1, if_neg hne.2.2.1, if_neg hne.2.2.2, hie]
                    rcases h45 with h4 | h5
                    · rw [if_pos h4, sm_congr (g := wo) (fun v => by rw [if_pos h4])]
                    · rw [if_neg (show ¬ ki k = 4 by omega), if_pos h5, sm_congr (g := tlF wo (wh k)) (fun v => by rw [if_neg (show ¬ ki k = 4 by omega)])]
                  exact ret_i C0 hr hlk hAe hS (co, af) hpo hP hD (bI_n _) (Nat.le_of_ble_eq_true rfl) (Nat.le_of_ble_eq_true rfl) d_M_isAllowed_222
                · have hvi := hwo i
                  refine lv_iload_n hx hb d_M_isAllowed_156 rfl (lv_at hl 1 rfl) ?_
                  refine lv_aload_n hx hb d_M_isAllowed_157 rfl (lv_at hl 3 rfl) ?_
                  refine r_get C0 hK hP 0 rfl rfl i_M 10 (by decide) wt_673 (fun _ h => h) rfl d_M_isAllowed_158 ?_
                  refine lv_iload_n hx hb d_M_isAllowed_161 rfl (lv_at hl 4 rfl) ?_
                  refine r_ald C0 hK hP 1 rfl (by omega) (by decide) d_M_isAllowed_162 ?_
                  refine t_eq (y := (nI (ki k))) rfl ?_
                  refine lv_iconst (v := (nI 4)) hx hb d_M_isAllowed_163 (by decide) ?_
                  refine b_ne (tgt := 177) hx hb (by omega) (by decide) d_M_isAllowed_164 (by decide) (fun c_164 => ?_) (fun c_164 => ?_)
                  · refine lv_aload_n hx hb d_M_isAllowed_177 rfl (lv_at hl 3 rfl) ?_
                    refine r_get C0 hK hP 0 rfl rfl i_M 23 (by decide) wt_686 (fun _ h => h) rfl d_M_isAllowed_178 ?_
                    refine lv_iload hx hb d_M_isAllowed_181 (lv_at hl 0 rfl) ?_
                    refine r_ald C0 hK hP 12 rfl (by omega) (by decide) d_M_isAllowed_183 ?_
                    refine t_eq (y := (nI (wo i))) rfl ?_
                    refine lv_aload_n hx hb d_M_isAllowed_184 rfl (lv_at hl 3 rfl) ?_
                    refine r_get C0 hK hP 0 rfl rfl i_M 16 (by decide) wt_679 (fun _ h => h) rfl d_M_isAllowed_185 ?_
                    refine lv_iload_n hx hb d_M_isAllowed_188 rfl (lv_at hl 4 rfl) ?_
                    refine r_ald C0 hK hP 5 rfl (by omega) (by decide) d_M_isAllowed_189 ?_
                    refine t_eq (y := (nI (wh k))) rfl ?_
                    refine b_ne (tgt := 197) hx hb (by omega) (by omega) d_M_isAllowed_190 (by decide) (fun c_190 => ?_) (fun c_190 => ?_)
                    · refine lv_iconst (v := (nI 0)) hx hb d_M_isAllowed_197 (by decide) ?_
                      refine lv_iadd hx hb d_M_isAllowed_198 ?_
                      refine t_eq (y := (nI ((sm (fun j => if ki k = 4 then wo j else tlF wo (wh k) j) i) + 0))) (nI_add _ _) ?_
                      refine t_eq (y := nI (sm (fun j => if ki k = 4 then wo j else tlF wo (wh k) j) (i + 1))) (by show _ = nI (_ + (if _ then _ else (if _ then _ else _))); first | (rw [if_pos c_164]; done) | (rw [if_neg c_164, if_pos c_190]; done) | (rw [if_neg c_164, if_neg c_190]; done)) ?_
                      refine lv_istore_n (lv' := [(3, .int (nI (sm (fun j => if ki k = 4 then wo j else tlF wo (wh k) j) (i + 1)))), (4, .int (nI i)), (2, .int (nI (wi k))), (0, .ref h), (1, .int (nI k))]) hx hb d_M_isAllowed_199 rfl hl (by decide) rfl (fun ls hl => ?_)
                      refine lv_iinc (v := (nI (i + 1))) (lv' := [(4, .int (nI (i + 1))), (3, .int (nI (sm (fun j => if ki k = 4 then wo j else tlF wo (wh k) j) (i + 1)))), (2, .int (nI (wi k))), (0, .ref h), (1, .int (nI k))]) hx hb d_M_isAllowed_200 hl (k := 1) rfl (by exact nI_1 _) (by decide) rfl (fun ls hl => ?_)
                      refine lv_goto (tgt := 150) hx hb d_M_isAllowed_203 (by decide) ?_
                      exact ih150 (i + 1) (by omega) (by omega) _ _ _ hP hD hS (lv_sub hl [0, 1, 2, 3, 4] rfl)
                    · refine lv_iconst (v := (nI 1)) hx hb d_M_isAllowed_193 (by decide) ?_
                      refine lv_goto (tgt := 198) hx hb d_M_isAllowed_194 (by decide) ?_
                      refine lv_iadd hx hb d_M_isAllowed_198 ?_
                      refine t_eq (y := (nI ((sm (fun j => if ki k = 4 then wo j else tlF wo (wh k) j) i) + 1))) (nI_add _ _) ?_
                      refine t_eq (y := nI (sm (fun j => if ki k = 4 then wo j else tlF wo (wh k) j) (i + 1))) (by show _ = nI (_ + (if _ then _ else (if _ then _ else _))); first | (rw [if_pos c_164]; done) | (rw [if_neg c_164, if_pos c_190]; done) | (rw [if_neg c_164, if_neg c_190]; done)) ?_
                      refine lv_istore_n (lv' := [(3, .int (nI (sm (fun j => if ki k = 4 then wo j else tlF wo (wh k) j) (i + 1)))), (4, .int (nI i)), (2, .int (nI (wi k))), (0, .ref h), (1, .int (nI k))]) hx hb d_M_isAllowed_199 rfl hl (by decide) rfl (fun ls hl => ?_)
                      refine lv_iinc (v := (nI (i + 1))) (lv' := [(4, .int (nI (i + 1))), (3, .int (nI (sm (fun j => if ki k = 4 then wo j else tlF wo (wh k) j) (i + 1)))), (2, .int (nI (wi k))), (0, .ref h), (1, .int (nI k))]) hx hb d_M_isAllowed_200 hl (k := 1) rfl (by exact nI_1 _) (by decide) rfl (fun ls hl => ?_)
                      refine lv_goto (tgt := 150) hx hb d_M_isAllowed_203 (by decide) ?_
                      exact ih150 (i + 1) (by omega) (by omega) _ _ _ hP hD hS (lv_sub hl [0, 1, 2, 3, 4] rfl)
                  · refine lv_aload_n hx hb d_M_isAllowed_167 rfl (lv_at hl 3 rfl) ?_
                    refine r_get C0 hK hP 0 rfl rfl i_M 23 (by decide) wt_686 (fun _ h => h) rfl d_M_isAllowed_168 ?_
                    refine lv_iload hx hb d_M_isAllowed_171 (lv_at hl 0 rfl) ?_
                    refine r_ald C0 hK hP 12 rfl (by omega) (by decide) d_M_isAllowed_173 ?_
                    refine t_eq (y := (nI (wo i))) rfl ?_
                    refine lv_goto (tgt := 198) hx hb d_M_isAllowed_174 (by decide) ?_
                    refine lv_iadd hx hb d_M_isAllowed_198 ?_
                    refine t_eq (y := (nI ((sm (fun j => if ki k = 4 then wo j else tlF wo (wh k) j) i) + (wo i)))) (nI_add _ _) ?_
                    refine t_eq (y := nI (sm (fun j => if ki k = 4 then wo j else tlF wo (wh k) j) (i + 1))) (by show _ = nI (_ + (if _ then _ else (if _ then _ else _))); first | (rw [if_pos c_164]; done) | (rw [if_neg c_164, if_pos c_190]; done) | (rw [if_neg c_164, if_neg c_190]; done)) ?_
                    refine lv_istore_n (lv' := [(3, .int (nI (sm (fun j => if ki k = 4 then wo j else tlF wo (wh k) j) (i + 1)))), (4, .int (nI i)), (2, .int (nI (wi k))), (0, .ref h), (1, .int (nI k))]) hx hb d_M_isAllowed_199 rfl hl (by decide) rfl (fun ls hl => ?_)
                    refine lv_iinc (v := (nI (i + 1))) (lv' := [(4, .int (nI (i + 1))), (3, .int (nI (sm (fun j => if ki k = 4 then wo j else tlF wo (wh k) j) (i + 1)))), (2, .int (nI (wi k))), (0, .ref h), (1, .int (nI k))]) hx hb d_M_isAllowed_200 hl (k := 1) rfl (by exact nI_1 _) (by decide) rfl (fun ls hl => ?_)
                    refine lv_goto (tgt := 150) hx hb d_M_isAllowed_203 (by decide) ?_
                    exact ih150 (i + 1) (by omega) (by omega) _ _ _ hP hD hS (lv_sub hl [0, 1, 2, 3, 4] rfl)
            exact L150 (wi k + 1) 0 (by omega) (by omega) _ _ _ hP hD hS (lv_sub hl [0, 1, 2, 3, 4] rfl)
          · refine lv_aload_n hx hb d_M_isAllowed_135 rfl (lv_at hl 1 rfl) ?_
            refine r_get C0 hK hP 0 rfl rfl i_M 10 (by decide) wt_673 (fun _ h => h) rfl d_M_isAllowed_136 ?_
            refine lv_iload_n hx hb d_M_isAllowed_139 rfl (lv_at hl 2 rfl) ?_
            refine r_ald C0 hK hP 1 rfl (by omega) (by decide) d_M_isAllowed_140 ?_
            refine t_eq (y := (nI (ki k))) rfl ?_
            refine lv_iconst (v := (nI 5)) hx hb d_M_isAllowed_141 (by decide) ?_
            refine b_ne (tgt := 223) hx hb (by omega) (by decide) d_M_isAllowed_142 (by decide) (fun c_142 => ?_) (fun c_142 => ?_)
            · refine lv_iconst (v := (nI 0)) hx hb d_M_isAllowed_223 (by decide) ?_
              refine lv_istore_n (lv' := [(3, .int (nI 0)), (2, .int (nI (wi k))), (0, .ref h), (1, .int (nI k))]) hx hb d_M_isAllowed_224 rfl hl (by decide) rfl (fun ls hl => ?_)
              refine lv_iconst (v := (nI 1)) hx hb d_M_isAllowed_225 (by decide) ?_
              refine lv_istore (lv' := [(4, .int (nI 1)), (3, .int (nI 0)), (2, .int (nI (wi k))), (0, .ref h), (1, .int (nI k))]) hx hb d_M_isAllowed_226 hl (by decide) rfl (fun ls hl => ?_)
              refine lv_iconst (v := (nI 0)) hx hb d_M_isAllowed_228 (by decide) ?_
              refine lv_istore (lv' := [(5, .int (nI 0)), (4, .int (nI 1)), (3, .int (nI 0)), (2, .int (nI (wi k))), (0, .ref h), (1, .int (nI k))]) hx hb d_M_isAllowed_229 hl (by decide) rfl (fun ls hl => ?_)
              have hl : lv_has ls 6 [(5, .int (nI 0)), (4, .int (nI 1)), (3, .int (bI (anyB (fun j => decide (wo j = lw k)) 0))), (2, .int (nI (wi k))), (0, .ref h), (1, .int (nI k))] := hl
              have hl : lv_has ls 6 [(5, .int (nI 0)), (4, .int (bI (allB (firB wo (lw k) (hg k)) 0))), (3, .int (bI (anyB (fun j => decide (wo j = lw k)) 0))), (2, .int (nI (wi k))), (0, .ref h), (1, .int (nI k))] := hl
              have L231 : ∀ (fuel231 : Nat) (i : Nat), (i ≤ wi k) → (wi k < i + fuel231) → ∀ (H : Heap) (locs : List Loc) (ls : Array Slot), va_P D cls [(h, .inr (10, oM ad nm mk rd cs)), (ad 10, .inl (cI, 10, .inl (nA ki))), (ad 11, .inl (cI, 10, .inl (nA wi))), (ad 14, .inl (cI, 10, .inl (nA lw))), (ad 15, .inl (cI, 10, .inl (nA hg))), (ad 16, .inl (cI, 10, .inl (nA wh))), (ad 17, .inl (cI, 10, .inl (nA mn))), (ad 18, .inl (cI, 200, .inl (nA tu))), (ad 19, .inl (cI, 300, .inl (nA sf))), (ad 20, .inl (cI, 300, .inl (nA sv))), (ad 21, .inl (cI, 300, .inl (nA so))), (ad 22, .inl (cI, 300, .inl (nA sc))), (ad 23, .inl (cI, 6, .inl (nA wo))), (ad 24, .inl (cI, 6, .inl (oA co))), (ad 25, .inl (cI, 6, .inl (oA af)))] H → va_D A [(h, .inr (10, oM ad nm mk rd cs)), (ad 10, .inl (cI, 10, .inl (nA ki))), (ad 11, .inl (cI, 10, .inl (nA wi))), (ad 14, .inl (cI, 10, .inl (nA lw))), (ad 15, .inl (cI, 10, .inl (nA hg))), (ad 16, .inl (cI, 10, .inl (nA wh))), (ad 17, .inl (cI, 10, .inl (nA mn))), (ad 18, .inl (cI, 200, .inl (nA tu))), (ad 19, .inl (cI, 300, .inl (nA sf))), (ad 20, .inl (cI, 300, .inl (nA sv))), (ad 21, .inl (cI, 300, .inl (nA so))), (ad 22, .inl (cI, 300, .inl (nA sc))), (ad 23, .inl (cI, 6, .inl (nA wo))), (ad 24, .inl (cI, 6, .inl (oA co))), (ad 25, .inl (cI, 6, .inl (oA af)))] → va_S A s.heap H locs → lv_has ls 6 [(5, .int (nI i)), (4, .int (bI (allB (firB wo (lw k) (hg k)) i))), (3, .int (bI (anyB (fun j => decide (wo j = lw k)) i))), (2, .int (nI (wi k))), (0, .ref h), (1, .int (nI k))] → W p l e { frames := 1, cells := 0, slots := 0, locals := 25 } s m ([.ref h, .int (nI k)] : List Value).toArray below meth c H locs 0 0 (MQ below (pstI D [(h, .inr (10, oM ad nm mk rd cs)), (ad 10, .inl (cI, 10, .inl (nA ki))), (ad 11, .inl (cI, 10, .inl (nA wi))), (ad 14, .inl (cI, 10, .inl (nA lw))), (ad 15, .inl (cI, 10, .inl (nA hg))), (ad 16, .inl (cI, 10, .inl (nA wh))), (ad 17, .inl (cI, 10, .inl (nA mn))), (ad 18, .inl (cI, 200, .inl (nA tu))), (ad 19, .inl (cI, 300, .inl (nA sf))), (ad 20, .inl (cI, 300, .inl (nA sv))), (ad 21, .inl (cI, 300, .inl (nA so))), (ad 22, .inl (cI, 300, .inl (nA sc))), (ad 23, .inl (cI, 6, .inl (nA wo))), (ad 24, .inl (cI, 6, .inl (oA co))), (ad 25, .inl (cI, 6, .inl (oA af)))] sz (fun (r : Int32) (u : (Nat → Option Nat) × (Nat → Option Nat)) => r = bI (alw (ki k) (wi k) (lw k) (hg k) (wh k) (anyB (tupA tu wo k (wi k)) (mn k)) (bsF (lw k) (coP sf sv so sc wo (30 * k) (mn k) (wi k)) 6) wo)) (fun u : (Nat → Option Nat) × (Nat → Option Nat) => [(h, .inr (10, oM ad nm mk rd cs)), (ad 10, .inl (cI, 10, .inl (nA ki))), (ad 11, .inl (cI, 10, .inl (nA wi))), (ad 14, .inl (cI, 10, .inl (nA lw))), (ad 15, .inl (cI, 10, .inl (nA hg))), (ad 16, .inl (cI, 10, .inl (nA wh))), (ad 17, .inl (cI, 10, .inl (nA mn))), (ad 18, .inl (cI, 200, .inl (nA tu))), (ad 19, .inl (cI, 300, .inl (nA sf))), (ad 20, .inl (cI, 300, .inl (nA sv))), (ad 21, .inl (cI, 300, .inl (nA so))), (ad 22, .inl (cI, 300, .inl (nA sc))), (ad 23, .inl (cI, 6, .inl (nA wo))), (ad 24, .inl (cI, 6, .inl (oA u.1))), (ad 25, .inl (cI, 6, .inl (oA u.2)))])) ([.ref h, .int (nI k)] : List Value).toArray s 0 0 A) (F0 m 231 ls []) := by
                intro fuel231
                induction fuel231 with
                | zero => intros; omega
                | succ fuel231 ih231 =>
                  intro i hi hfu H locs ls hP hD hS hl
                  refine lv_iload hx hb d_M_isAllowed_231 (lv_at hl 0 rfl) ?_
                  refine lv_iload_n hx hb d_M_isAllowed_233 rfl (lv_at hl 3 rfl) ?_
                  refine b_ge (tgt := 301) hx hb (by omega) (by omega) d_M_isAllowed_234 (by decide) (fun c_234 => ?_) (fun c_234 => ?_)
                  · refine lv_iload hx hb d_M_isAllowed_301 (lv_at hl 1 rfl) ?_
                    have hie : i = wi k := by omega
                    exact ret_i C0 hr hlk hAe hS (co, af) (by unfold alw; rw [if_neg c_13, if_neg c_29, if_neg c_66, if_neg c_116, if_neg c_132, if_neg c_142, hie]) hP hD (bI_n _) (Nat.le_of_ble_eq_true rfl) (Nat.le_of_ble_eq_true rfl) d_M_isAllowed_303
                  · have hvi := hwo i
                    refine lv_iload hx hb d_M_isAllowed_237 (lv_at hl 1 rfl) ?_
                    refine y_eq (tgt := 266) hx hb d_M_isAllowed_239 (by decide) (fun c_239 => ?_) (fun c_239 => ?_)
                    · refine lv_iconst (v := (nI 0)) hx hb d_M_isAllowed_266 (by decide) ?_
                      refine t_eq (y := bI (allB (firB wo (lw k) (hg k)) (i + 1))) (by first | (refine bI_of_t ?_; simp [allB, firB, c_239, c_255, c_259]; done) | (refine bI_of_f ?_; simp [allB, firB, c_239, c_255, c_259]; done) | (refine bI_of_t ?_; simp [allB, firB, c_239, c_255]; done) | (refine bI_of_f ?_; simp [allB, firB, c_239, c_255]; done) | (refine bI_of_t ?_; simp [allB, firB, c_239]; done) | (refine bI_of_f ?_; simp [allB, firB, c_239]; done) | (refine bI_of_t ?_; simp [allB, firB]; done) | (refine bI_of_f ?_; simp [allB, firB]; done)) ?_
                      refine lv_istore (lv' := [(4, .int (bI (allB (firB wo (lw k) (hg k)) (i + 1)))), (5, .int (nI i)), (3, .int (bI (anyB (fun j => decide (wo j = lw k)) i))), (2, .int (nI (wi k))), (0, .ref h), (1, .int (nI k))]) hx hb d_M_isAllowed_267 hl (by decide) rfl (fun ls hl => ?_)
                      refine lv_iload_n hx hb d_M_isAllowed_269 rfl (lv_at hl 2 rfl) ?_
                      refine y_ne (tgt := 289) hx hb d_M_isAllowed_270 (by decide) (fun c_270 => ?_) (fun c_270 => ?_)
                      · refine lv_iconst (v := (nI 1)) hx hb d_M_isAllowed_289 (by decide) ?_
                        refine lv_goto (tgt := 294) hx hb d_M_isAllowed_290 (by decide) ?_
                        refine t_eq (y := bI (anyB (fun j => decide (wo j = lw k)) (i + 1))) (by first | (refine bI_of_t ?_; simp [anyB, c_270, c_286]; done) | (refine bI_of_f ?_; simp [anyB, c_270, c_286]; done) | (refine bI_of_t ?_; simp [anyB, c_270]; done) | (refine bI_of_f ?_; simp [anyB, c_270]; done) | (refine bI_of_t ?_; simp [anyB]; done) | (refine bI_of_f ?_; simp [anyB]; done)) ?_
                        refine lv_istore_n (lv' := [(3, .int (bI (anyB (fun j => decide (wo j = lw k)) (i + 1)))), (4, .int (bI (allB (firB wo (lw k) (hg k)) (i + 1)))), (5, .int (nI i)), (2, .int (nI (wi k))), (0, .ref h), (1, .int (nI k))]) hx hb d_M_isAllowed_294 rfl hl (by decide) rfl (fun ls hl => ?_)
                        refine lv_iinc (v := (nI (i + 1))) (lv' := [(5, .int (nI (i + 1))), (3, .int (bI (anyB (fun j => decide (wo j = lw k)) (i + 1)))), (4, .int (bI (allB (firB wo (lw k) (hg k)) (i + 1)))), (2, .int (nI (wi k))), (0, .ref h), (1, .int (nI k))]) hx hb d_M_isAllowed_295 hl (k := 2) rfl (by exact nI_1 _) (by decide) rfl (fun ls hl => ?_)
                        refine lv_goto (tgt := 231) hx hb d_M_isAllowed_298 (by decide) ?_
                        exact ih231 (i + 1) (by omega) (by omega) _ _ _ hP hD hS (lv_sub hl [0, 2, 1, 3, 4, 5] rfl)
                      · refine lv_aload_n hx hb d_M_isAllowed_273 rfl (lv_at hl 4 rfl) ?_
                        refine r_get C0 hK hP 0 rfl rfl i_M 23 (by decide) wt_686 (fun _ h => h) rfl d_M_isAllowed_274 ?_
                        refine lv_iload hx hb d_M_isAllowed_277 (lv_at hl 1 rfl) ?_
                        refine r_ald C0 hK hP 12 rfl (by omega) (by decide) d_M_isAllowed_279 ?_
                        refine t_eq (y := (nI (wo i))) rfl ?_
                        refine lv_aload_n hx hb d_M_isAllowed_280 rfl (lv_at hl 4 rfl) ?_
                        refine r_get C0 hK hP 0 rfl rfl i_M 14 (by decide) wt_677 (fun _ h => h) rfl d_M_isAllowed_281 ?_
                        refine lv_iload_n hx hb d_M_isAllowed_284 rfl (lv_at hl 5 rfl) ?_
                        refine r_ald C0 hK hP 3 rfl (by omega) (by decide) d_M_isAllowed_285 ?_
                        refine t_eq (y := (nI (lw k))) rfl ?_
                        refine b_ne (tgt := 293) hx hb (by omega) (by omega) d_M_isAllowed_286 (by decide) (fun c_286 => ?_) (fun c_286 => ?_)
                        · refine lv_iconst (v := (nI 0)) hx hb d_M_isAllowed_293 (by decide) ?_
                          refine t_eq (y := bI (anyB (fun j => decide (wo j = lw k)) (i + 1))) (by first | (refine bI_of_t ?_; simp [anyB, c_270, c_286]; done) | (refine bI_of_f ?_; simp [anyB, c_270, c_286]; done) | (refine bI_of_t ?_; simp [anyB, c_270]; done) | (refine bI_of_f ?_; simp [anyB, c_270]; done) | (refine bI_of_t ?_; simp [anyB]; done) | (refine bI_of_f ?_; simp [anyB]; done)) ?_
                          refine lv_istore_n (lv' := [(3, .int (bI (anyB (fun j => decide (wo j = lw k)) (i + 1)))), (4, .int (bI (allB (firB wo (lw k) (hg k)) (i + 1)))), (5, .int (nI i)), (2, .int (nI (wi k))), (0, .ref h), (1, .int (nI k))]) hx hb d_M_isAllowed_294 rfl hl (by decide) rfl (fun ls hl => ?_)
                          refine lv_iinc (v := (nI (i + 1))) (lv' := [(5, .int (nI (i + 1))), (3, .int (bI (anyB (fun j => decide (wo j = lw k)) (i + 1)))), (4, .int (bI (allB (firB wo (lw k) (hg k)) (i + 1)))), (2, .int (nI (wi k))), (0, .ref h), (1, .int (nI k))]) hx hb d_M_isAllowed_295 hl (k := 2) rfl (by exact nI_1 _) (by decide) rfl (fun ls hl => ?_)
                          refine lv_goto (tgt := 231) hx hb d_M_isAllowed_298 (by decide) ?_
                          exact ih231 (i + 1) (by omega) (by omega) _ _ _ hP hD hS (lv_sub hl [0, 2, 1, 3, 4, 5] rfl)
                        · refine lv_iconst (v := (nI 1)) hx hb d_M_isAllowed_289 (by decide) ?_
                          refine lv_goto (tgt := 294) hx hb d_M_isAllowed_290 (by decide) ?_
                          refine t_eq (y := bI (anyB (fun j => decide (wo j = lw k)) (i + 1))) (by first | (refine bI_of_t ?_; simp [anyB, c_270, c_286]; done) | (refine bI_of_f ?_; simp [anyB, c_270, c_286]; done) | (refine bI_of_t ?_; simp [anyB, c_270]; done) | (refine bI_of_f ?_; simp [anyB, c_270]; done) | (refine bI_of_t ?_; simp [anyB]; done) | (refine bI_of_f ?_; simp [anyB]; done)) ?_
                          refine lv_istore_n (lv' := [(3, .int (bI (anyB (fun j => decide (wo j = lw k)) (i + 1)))), (4, .int (bI (allB (firB wo (lw k) (hg k)) (i + 1)))), (5, .int (nI i)), (2, .int (nI (wi k))), (0, .ref h), (1, .int (nI k))]) hx hb d_M_isAllowed_294 rfl hl (by decide) rfl (fun ls hl => ?_)
                          refine lv_iinc (v := (nI (i + 1))) (lv' := [(5, .int (nI (i + 1))), (3, .int (bI (anyB (fun j => decide (wo j = lw k)) (i + 1)))), (4, .int (bI (allB (firB wo (lw k) (hg k)) (i + 1)))), (2, .int (nI (wi k))), (0, .ref h), (1, .int (nI k))]) hx hb d_M_isAllowed_295 hl (k := 2) rfl (by exact nI_1 _) (by decide) rfl (fun ls hl => ?_)
                          refine lv_goto (tgt := 231) hx hb d_M_isAllowed_298 (by decide) ?_
                          exact ih231 (i + 1) (by omega) (by omega) _ _ _ hP hD hS (lv_sub hl [0, 2, 1, 3, 4, 5] rfl)
                    · refine lv_aload_n hx hb d_M_isAllowed_242 rfl (lv_at hl 4 rfl) ?_
                      refine r_get C0 hK hP 0 rfl rfl i_M 23 (by decide) wt_686 (fun _ h => h) rfl d_M_isAllowed_243 ?_
                      refine lv_iload hx hb d_M_isAllowed_246 (lv_at hl 0 rfl) ?_
                      refine r_ald C0 hK hP 12 rfl (by omega) (by decide) d_M_isAllowed_248 ?_
                      refine t_eq (y := (nI (wo i))) rfl ?_
                      refine lv_aload_n hx hb d_M_isAllowed_249 rfl (lv_at hl 4 rfl) ?_
                      refine r_get C0 hK hP 0 rfl rfl i_M 15 (by decide) wt_678 (fun _ h => h) rfl d_M_isAllowed_250 ?_
                      refine lv_iload_n hx hb d_M_isAllowed_253 rfl (lv_at hl 5 rfl) ?_
                      refine r_ald C0 hK hP 4 rfl (by omega) (by decide) d_M_isAllowed_254 ?_
                      refine t_eq (y := (nI (hg k))) rfl ?_
                      refine b_ne (tgt := 262) hx hb (by omega) (by omega) d_M_isAllowed_255 (by decide) (fun c_255 => ?_) (fun c_255 => ?_)
                      · refine lv_iconst (v := (nI 1)) hx hb d_M_isAllowed_262 (by decide) ?_
                        refine lv_goto (tgt := 267) hx hb d_M_isAllowed_263 (by decide) ?_
                        refine t_eq (y := bI (allB (firB wo (lw k) (hg k)) (i + 1))) (by first | (refine bI_of_t ?_; simp [allB, firB, c_239, c_255, c_259]; done) | (refine bI_of_f ?_; simp [allB, firB, c_239, c_255, c_259]; done) | (refine bI_of_t ?_; simp [allB, firB, c_239, c_255]; done) | (refine bI_of_f ?_; simp [allB, firB, c_239, c_255]; done) | (refine bI_of_t ?_; simp [allB, firB, c_239]; done) | (refine bI_of_f ?_; simp [allB, firB, c_239]; done) | (refine bI_of_t ?_; simp [allB, firB]; done) | (refine bI_of_f ?_; simp [allB, firB]; done)) ?_
                        refine lv_istore (lv' := [(4, .int (bI (allB (firB wo (lw k) (hg k)) (i + 1)))), (5, .int (nI i)), (3, .int (bI (anyB (fun j => decide (wo j = lw k)) i))), (2, .int (nI (wi k))), (0, .ref h), (1, .int (nI k))]) hx hb d_M_isAllowed_267 hl (by decide) rfl (fun ls hl => ?_)
                        refine lv_iload_n hx hb d_M_isAllowed_269 rfl (lv_at hl 2 rfl) ?_
                        refine y_ne (tgt := 289) hx hb d_M_isAllowed_270 (by decide) (fun c_270 => ?_) (fun c_270 => ?_)
                        · refine lv_iconst (v := (nI 1)) hx hb d_M_isAllowed_289 (by decide) ?_
                          refine lv_goto (tgt := 294) hx hb d_M_isAllowed_290 (by decide) ?_
                          refine t_eq (y := bI (anyB (fun j => decide (wo j = lw k)) (i + 1))) (by first | (refine bI_of_t ?_; simp [anyB, c_270, c_286]; done) | (refine bI_of_f ?_; simp [anyB, c_270, c_286]; done) | (refine bI_of_t ?_; simp [anyB, c_270]; done) | (refine bI_of_f ?_; simp [anyB, c_270]; done) | (refine bI_of_t ?_; simp [anyB]; done) | (refine bI_of_f ?_; simp [anyB]; done)) ?_
                          refine lv_istore_n (lv' := [(3, .int (bI (anyB (fun j => decide (wo j = lw k)) (i + 1)))), (4, .int (bI (allB (firB wo (lw k) (hg k)) (i + 1)))), (5, .int (nI i)), (2, .int (nI (wi k))), (0, .ref h), (1, .int (nI k))]) hx hb d_M_isAllowed_294 rfl hl (by decide) rfl (fun ls hl => ?_)
                          refine lv_iinc (v := (nI (i + 1))) (lv' := [(5, .int (nI (i + 1))), (3, .int (bI (anyB (fun j => decide (wo j = lw k)) (i + 1)))), (4, .int (bI (allB (firB wo (lw k) (hg k)) (i + 1)))), (2, .int (nI (wi k))), (0, .ref h), (1, .int (nI k))]) hx hb d_M_isAllowed_295 hl (k := 2) rfl (by exact nI_1 _) (by decide) rfl (fun ls hl => ?_)
                          refine lv_goto (tgt := 231) hx hb d_M_isAllowed_298 (by decide) ?_
                          exact ih231 (i + 1) (by omega) (by omega) _ _ _ hP hD hS (lv_sub hl [0, 2, 1, 3, 4, 5] rfl)
                        · refine lv_aload_n hx hb d_M_isAllowed_273 rfl (lv_at hl 4 rfl) ?_
                          refine r_get C0 hK hP 0 rfl rfl i_M 23 (by decide) wt_686 (fun _ h => h) rfl d_M_isAllowed_274 ?_
                          refine lv_iload hx hb d_M_isAllowed_277 (lv_at hl 1 rfl) ?_
                          refine r_ald C0 hK hP 12 rfl (by omega) (by decide) d_M_isAllowed_279 ?_
                          refine t_eq (y := (nI (wo i))) rfl ?_
                          refine lv_aload_n hx hb d_M_isAllowed_280 rfl (lv_at hl 4 rfl) ?_
                          refine r_get C0 hK hP 0 rfl rfl i_M 14 (by decide) wt_677 (fun _ h => h) rfl d_M_isAllowed_281 ?_
                          refine lv_iload_n hx hb d_M_isAllowed_284 rfl (lv_at hl 5 rfl) ?_
                          refine r_ald C0 hK hP 3 rfl (by omega) (by decide) d_M_isAllowed_285 ?_
                          refine t_eq (y := (nI (lw k))) rfl ?_
                          refine b_ne (tgt := 293) hx hb (by omega) (by omega) d_M_isAllowed_286 (by decide) (fun c_286 => ?_) (fun c_286 => ?_)
                          · refine lv_iconst (v := (nI 0)) hx hb d_M_isAllowed_293 (by decide) ?_
                            refine t_eq (y := bI (anyB (fun j => decide (wo j = lw k)) (i + 1))) (by first | (refine bI_of_t ?_; simp [anyB, c_270, c_286]; done) | (refine bI_of_f ?_; simp [anyB, c_270, c_286]; done) | (refine bI_of_t ?_; simp [anyB, c_270]; done) | (refine bI_of_f ?_; simp [anyB, c_270]; done) | (refine bI_of_t ?_; simp [anyB]; done) | (refine bI_of_f ?_; simp [anyB]; done)) ?_
                            refine lv_istore_n (lv' := [(3, .int (bI (anyB (fun j => decide (wo j = lw k)) (i + 1)))), (4, .int (bI (allB (firB wo (lw k) (hg k)) (i + 1)))), (5, .int (nI i)), (2, .int (nI (wi k))), (0, .ref h), (1, .int (nI k))]) hx hb d_M_isAllowed_294 rfl hl (by decide) rfl (fun ls hl => ?_)
                            refine lv_iinc (v := (nI (i + 1))) (lv' := [(5, .int (nI (i + 1))), (3, .int (bI (anyB (fun j => decide (wo j = lw k)) (i + 1)))), (4, .int (bI (allB (firB wo (lw k) (hg k)) (i + 1)))), (2, .int (nI (wi k))), (0, .ref h), (1, .int (nI k))]) hx hb d_M_isAllowed_295 hl (k := 2) rfl (by exact nI_1 _) (by decide) rfl (fun ls hl => ?_)
                            refine lv_goto (tgt := 231) hx hb d_M_isAllowed_298 (by decide) ?_
                            exact ih231 (i + 1) (by omega) (by omega) _ _ _ hP hD hS (lv_sub hl [0, 2, 1, 3, 4, 5] rfl)
                          · refine lv_iconst (v := (nI 1)) hx hb d_M_isAllowed_289 (by decide) ?_
                            refine lv_goto (tgt := 294) hx hb d_M_isAllowed_290 (by decide) ?_
                            refine t_eq (y := bI (anyB (fun j => decide (wo j = lw k)) (i + 1))) (by first | (refine bI_of_t ?_; simp [anyB, c_270, c_286]; done) | (refine bI_of_f ?_; simp [anyB, c_270, c_286]; done) | (refine bI_of_t ?_; simp [anyB, c_270]; done) | (refine bI_of_f ?_; simp [anyB, c_270]; done) | (refine bI_of_t ?_; simp [anyB]; done) | (refine bI_of_f ?_; simp [anyB]; done)) ?_
                            refine lv_istore_n (lv' := [(3, .int (bI (anyB (fun j => decide (wo j = lw k)) (i + 1)))), (4, .int (bI (allB (firB wo (lw k) (hg k)) (i + 1)))), (5, .int (nI i)), (2, .int (nI (wi k))), (0, .ref h), (1, .int (nI k))]) hx hb d_M_isAllowed_294 rfl hl (by decide) rfl (fun ls hl => ?_)
                            refine lv_iinc (v := (nI (i + 1))) (lv' := [(5, .int (nI (i + 1))), (3, .int (bI (anyB (fun j => decide (wo j = lw k)) (i + 1)))), (4, .int (bI (allB (firB wo (lw k) (hg k)) (i + 1)))), (2, .int (nI (wi k))), (0, .ref h), (1, .int (nI k))]) hx hb d_M_isAllowed_295 hl (k := 2) rfl (by exact nI_1 _) (by decide) rfl (fun ls hl => ?_)
                            refine lv_goto (tgt := 231) hx hb d_M_isAllowed_298 (by decide) ?_
                            exact ih231 (i + 1) (by omega) (by omega) _ _ _ hP hD hS (lv_sub hl [0, 2, 1, 3, 4, 5] rfl)
                      · refine lv_iload_n hx hb d_M_isAllowed_258 rfl (lv_at hl 2 rfl) ?_
                        refine y_eq (tgt := 266) hx hb d_M_isAllowed_259 (by decide) (fun c_259 => ?_) (fun c_259 => ?_)
                        · refine lv_iconst (v := (nI 0)) hx hb d_M_isAllowed_266 (by decide) ?_
                          refine t_eq (y := bI (allB (firB wo (lw k) (hg k)) (i + 1))) (by first | (refine bI_of_t ?_; simp [allB, firB, c_239, c_255, c_259]; done) | (refine bI_of_f ?_; simp [allB, firB, c_239, c_255, c_259]; done) | (refine bI_of_t ?_; simp [allB, firB, c_239, c_255]; done) | (refine bI_of_f ?_; simp [allB, firB, c_239, c_255]; done) | (refine bI_of_t ?_; simp [allB, firB, c_239]; done) | (refine bI_of_f ?_; simp [allB, firB, c_239]; done) | (refine bI_of_t ?_; simp [allB, firB]; done) | (refine bI_of_f ?_; simp [allB, firB]; done)) ?_
                          refine lv_istore (lv' := [(4, .int (bI (allB (firB wo (lw k) (hg k)) (i + 1)))), (5, .int (nI i)), (3, .int (bI (anyB (fun j => decide (wo j = lw k)) i))), (2, .int (nI (wi k))), (0, .ref h), (1, .int (nI k))]) hx hb d_M_isAllowed_267 hl (by decide) rfl (fun ls hl => ?_)
                          refine lv_iload_n hx hb d_M_isAllowed_269 rfl (lv_at hl 2 rfl) ?_
                          refine y_ne (tgt := 289) hx hb d_M_isAllowed_270 (by decide) (fun c_270 => ?_) (fun c_270 => ?_)
                          · refine lv_iconst (v := (nI 1)) hx hb d_M_isAllowed_289 (by decide) ?_
                            refine lv_goto (tgt := 294) hx hb d_M_isAllowed_290 (by decide) ?_
                            refine t_eq (y := bI (anyB (fun j => decide (wo j = lw k)) (i + 1))) (by first | (refine bI_of_t ?_; simp [anyB, c_270, c_286]; done) | (refine bI_of_f ?_; simp [anyB, c_270, c_286]; done) | (refine bI_of_t ?_; simp [anyB, c_270]; done) | (refine bI_of_f ?_; simp [anyB, c_270]; done) | (refine bI_of_t ?_; simp [anyB]; done) | (refine bI_of_f ?_; simp [anyB]; done)) ?_
                            refine lv_istore_n (lv' := [(3, .int (bI (anyB (fun j => decide (wo j = lw k)) (i + 1)))), (4, .int (bI (allB (firB wo (lw k) (hg k)) (i + 1)))), (5, .int (nI i)), (2, .int (nI (wi k))), (0, .ref h), (1, .int (nI k))]) hx hb d_M_isAllowed_294 rfl hl (by decide) rfl (fun ls hl => ?_)
                            refine lv_iinc (v := (nI (i + 1))) (lv' := [(5, .int (nI (i + 1))), (3, .int (bI (anyB (fun j => decide (wo j = lw k)) (i + 1)))), (4, .int (bI (allB (firB wo (lw k) (hg k)) (i + 1)))), (2, .int (nI (wi k))), (0, .ref h), (1, .int (nI k))]) hx hb d_M_isAllowed_295 hl (k := 2) rfl (by exact nI_1 _) (by decide) rfl (fun ls hl => ?_)
                            refine lv_goto (tgt := 231) hx hb d_M_isAllowed_298 (by decide) ?_
                            exact ih231 (i + 1) (by omega) (by omega) _ _ _ hP hD hS (lv_sub hl [0, 2, 1, 3, 4, 5] rfl)
                          · refine lv_aload_n hx hb d_M_isAllowed_273 rfl (lv_at hl 4 rfl) ?_
                            refine r_get C0 hK hP 0 rfl rfl i_M 23 (by decide) wt_686 (fun _ h => h) rfl d_M_isAllowed_274 ?_
                            refine lv_iload hx hb d_M_isAllowed_277 (lv_at hl 1 rfl) ?_
                            refine r_ald C0 hK hP 12 rfl (by omega) (by decide) d_M_isAllowed_279 ?_
                            refine t_eq (y := (nI (wo i))) rfl ?_
                            refine lv_aload_n hx hb d_M_isAllowed_280 rfl (lv_at hl 4 rfl) ?_
                            refine r_get C0 hK hP 0 rfl rfl i_M 14 (by decide) wt_677 (fun _ h => h) rfl d_M_isAllowed_281 ?_
                            refine lv_iload_n hx hb d_M_isAllowed_284 rfl (lv_at hl 5 rfl) ?_
                            refine r_ald C0 hK hP 3 rfl (by omega) (by decide) d_M_isAllowed_285 ?_
                            refine t_eq (y := (nI (lw k))) rfl ?_
                            refine b_ne (tgt := 293) hx hb (by omega) (by omega) d_M_isAllowed_286 (by decide) (fun c_286 => ?_) (fun c_286 => ?_)
                            · refine lv_iconst (v := (nI 0)) hx hb d_M_isAllowed_293 (by decide) ?_
                              refine t_eq (y := bI (anyB (fun j => decide (wo j = lw k)) (i + 1))) (by first | (refine bI_of_t ?_; simp [anyB, c_270, c_286]; done) | (refine bI_of_f ?_; simp [anyB, c_270, c_286]; done) | (refine bI_of_t ?_; simp [anyB, c_270]; done) | (refine bI_of_f ?_; simp [anyB, c_270]; done) | (refine bI_of_t ?_; simp [anyB]; done) | (refine bI_of_f ?_; simp [anyB]; done)) ?_
                              refine lv_istore_n (lv' := [(3, .int (bI (anyB (fun j => decide (wo j = lw k)) (i + 1)))), (4, .int (bI (allB (firB wo (lw k) (hg k)) (i + 1)))), (5, .int (nI i)), (2, .int (nI (wi k))), (0, .ref h), (1, .int (nI k))]) hx hb d_M_isAllowed_294 rfl hl (by decide) rfl (fun ls hl => ?_)
                              refine lv_iinc (v := (nI (i + 1))) (lv' := [(5, .int (nI (i + 1))), (3, .int (bI (anyB (fun j => decide (wo j = lw k)) (i + 1)))), (4, .int (bI (allB (firB wo (lw k) (hg k)) (i + 1)))), (2, .int (nI (wi k))), (0, .ref h), (1, .int (nI k))]) hx hb d_M_isAllowed_295 hl (k := 2) rfl (by exact nI_1 _) (by decide) rfl (fun ls hl => ?_)
                              refine lv_goto (tgt := 231) hx hb d_M_isAllowed_298 (by decide) ?_
                              exact ih231 (i + 1) (by omega) (by omega) _ _ _ hP hD hS (lv_sub hl [0, 2, 1, 3, 4, 5] rfl)
                            · refine lv_iconst (v := (nI 1)) hx hb d_M_isAllowed_289 (by decide) ?_
                              refine lv_goto (tgt := 294) hx hb d_M_isAllowed_290 (by decide) ?_
                              refine t_eq (y := bI (anyB (fun j => decide (wo j = lw k)) (i + 1))) (by first | (refine bI_of_t ?_; simp [anyB, c_270, c_286]; done) | (refine bI_of_f ?_; simp [anyB, c_270, c_286]; done) | (refine bI_of_t ?_; simp [anyB, c_270]; done) | (refine bI_of_f ?_; simp [anyB, c_270]; done) | (refine bI_of_t ?_; simp [anyB]; done) | (refine bI_of_f ?_; simp [anyB]; done)) ?_
                              refine lv_istore_n (lv' := [(3, .int (bI (anyB (fun j => decide (wo j = lw k)) (i + 1)))), (4, .int (bI (allB (firB wo (lw k) (hg k)) (i + 1)))), (5, .int (nI i)), (2, .int (nI (wi k))), (0, .ref h), (1, .int (nI k))]) hx hb d_M_isAllowed_294 rfl hl (by decide) rfl (fun ls hl => ?_)
                              refine lv_iinc (v := (nI (i + 1))) (lv' := [(5, .int (nI (i + 1))), (3, .int (bI (anyB (fun j => decide (wo j = lw k)) (i + 1)))), (4, .int (bI (allB (firB wo (lw k) (hg k)) (i + 1)))), (2, .int (nI (wi k))), (0, .ref h), (1, .int (nI k))]) hx hb d_M_isAllowed_295 hl (k := 2) rfl (by exact nI_1 _) (by decide) rfl (fun ls hl => ?_)
                              refine lv_goto (tgt := 231) hx hb d_M_isAllowed_298 (by decide) ?_
                              exact ih231 (i + 1) (by omega) (by omega) _ _ _ hP hD hS (lv_sub hl [0, 2, 1, 3, 4, 5] rfl)
                        · refine lv_iconst (v := (nI 1)) hx hb d_M_isAllowed_262 (by decide) ?_
                          refine lv_goto (tgt := 267) hx hb d_M_isAllowed_263 (by decide) ?_
                          refine t_eq (y := bI (allB (firB wo (lw k) (hg k)) (i + 1))) (by first | (refine bI_of_t ?_; simp [allB, firB, c_239, c_255, c_259]; done) | (refine bI_of_f ?_; simp [allB, firB, c_239, c_255, c_259]; done) | (refine bI_of_t ?_; simp [allB, firB, c_239, c_255]; done) | (refine bI_of_f ?_; simp [allB, firB, c_239, c_255]; done) | (refine bI_of_t ?_; simp [allB, firB, c_239]; done) | (refine bI_of_f ?_; simp [allB, firB, c_239]; done) | (refine bI_of_t ?_; simp [allB, firB]; done) | (refine bI_of_f ?_; simp [allB, firB]; done)) ?_
                          refine lv_istore (lv' := [(4, .int (bI (allB (firB wo (lw k) (hg k)) (i + 1)))), (5, .int (nI i)), (3, .int (bI (anyB (fun j => decide (wo j = lw k)) i))), (2, .int (nI (wi k))), (0, .ref h), (1, .int (nI k))]) hx hb d_M_isAllowed_267 hl (by decide) rfl (fun ls hl => ?_)
                          refine lv_iload_n hx hb d_M_isAllowed_269 rfl (lv_at hl 2 rfl) ?_
                          refine y_ne (tgt := 289) hx hb d_M_isAllowed_270 (by decide) (fun c_270 => ?_) (fun c_270 => ?_)
                          · refine lv_iconst (v := (nI 1)) hx hb d_M_isAllowed_289 (by decide) ?_
                            refine lv_goto (tgt := 294) hx hb d_M_isAllowed_290 (by decide) ?_
                            refine t_eq (y := bI (anyB (fun j => decide (wo j = lw k)) (i + 1))) (by first | (refine bI_of_t ?_; simp [anyB, c_270, c_286]; done) | (refine bI_of_f ?_; simp [anyB, c_270, c_286]; done) | (refine bI_of_t ?_; simp [anyB, c_270]; done) | (refine bI_of_f ?_; simp [anyB, c_270]; done) | (refine bI_of_t ?_; simp [anyB]; done) | (refine bI_of_f ?_; simp [anyB]; done)) ?_
                            refine lv_istore_n (lv' := [(3, .int (bI (anyB (fun j => decide (wo j = lw k)) (i + 1)))), (4, .int (bI (allB (firB wo (lw k) (hg k)) (i + 1)))), (5, .int (nI i)), (2, .int (nI (wi k))), (0, .ref h), (1, .int (nI k))]) hx hb d_M_isAllowed_294 rfl hl (by decide) rfl (fun ls hl => ?_)
                            refine lv_iinc (v := (nI (i + 1))) (lv' := [(5, .int (nI (i + 1))), (3, .int (bI (anyB (fun j => decide (wo j = lw k)) (i + 1)))), (4, .int (bI (allB (firB wo (lw k) (hg k)) (i + 1)))), (2, .int (nI (wi k))), (0, .ref h), (1, .int (nI k))]) hx hb d_M_isAllowed_295 hl (k := 2) rfl (by exact nI_1 _) (by decide) rfl (fun ls hl => ?_)
                            refine lv_goto (tgt := 231) hx hb d_M_isAllowed_298 (by decide) ?_
                            exact ih231 (i + 1) (by omega) (by omega) _ _ _ hP hD hS (lv_sub hl [0, 2, 1, 3, 4, 5] rfl)
                          · refine lv_aload_n hx hb d_M_isAllowed_273 rfl (lv_at hl 4 rfl) ?_
                            refine r_get C0 hK hP 0 rfl rfl i_M 23 (by decide) wt_686 (fun _ h => h) rfl d_M_isAllowed_274 ?_
                            refine lv_iload hx hb d_M_isAllowed_277 (lv_at hl 1 rfl) ?_
                            refine r_ald C0 hK hP 12 rfl (by omega) (by decide) d_M_isAllowed_279 ?_
                            refine t_eq (y := (nI (wo i))) rfl ?_
                            refine lv_aload_n hx hb d_M_isAllowed_280 rfl (lv_at hl 4 rfl) ?_
                            refine r_get C0 hK hP 0 rfl rfl i_M 14 (by decide) wt_677 (fun _ h => h) rfl d_M_isAllowed_281 ?_
                            refine lv_iload_n hx hb d_M_isAllowed_284 rfl (lv_at hl 5 rfl) ?_
                            refine r_ald C0 hK hP 3 rfl (by omega) (by decide) d_M_isAllowed_285 ?_
                            refine t_eq (y := (nI (lw k))) rfl ?_
                            refine b_ne (tgt := 293) hx hb (by omega) (by omega) d_M_isAllowed_286 (by decide) (fun c_286 => ?_) (fun c_286 => ?_)
                            · refine lv_iconst (v := (nI 0)) hx hb d_M_isAllowed_293 (by decide) ?_
                              refine t_eq (y := bI (anyB (fun j => decide (wo j = lw k)) (i + 1))) (by first | (refine bI_of_t ?_; simp [anyB, c_270, c_286]; done) | (refine bI_of_f ?_; simp [anyB, c_270, c_286]; done) | (refine bI_of_t ?_; simp [anyB, c_270]; done) | (refine bI_of_f ?_; simp [anyB, c_270]; done) | (refine bI_of_t ?_; simp [anyB]; done) | (refine bI_of_f ?_; simp [anyB]; done)) ?_
                              refine lv_istore_n (lv' := [(3, .int (bI (anyB (fun j => decide (wo j = lw k)) (i + 1)))), (4, .int (bI (allB (firB wo (lw k) (hg k)) (i + 1)))), (5, .int (nI i)), (2, .int (nI (wi k))), (0, .ref h), (1, .int (nI k))]) hx hb d_M_isAllowed_294 rfl hl (by decide) rfl (fun ls hl => ?_)
                              refine lv_iinc (v := (nI (i + 1))) (lv' := [(5, .int (nI (i + 1))), (3, .int (bI (anyB (fun j => decide (wo j = lw k)) (i + 1)))), (4, .int (bI (allB (firB wo (lw k) (hg k)) (i + 1)))), (2, .int (nI (wi k))), (0, .ref h), (1, .int (nI k))]) hx hb d_M_isAllowed_295 hl (k := 2) rfl (by exact nI_1 _) (by decide) rfl (fun ls hl => ?_)
                              refine lv_goto (tgt := 231) hx hb d_M_isAllowed_298 (by decide) ?_
                              exact ih231 (i + 1) (by omega) (by omega) _ _ _ hP hD hS (lv_sub hl [0, 2, 1, 3, 4, 5] rfl)
                            · refine lv_iconst (v := (nI 1)) hx hb d_M_isAllowed_289 (by decide) ?_
                              refine lv_goto (tgt := 294) hx hb d_M_isAllowed_290 (by decide) ?_
                              refine t_eq (y := bI (anyB (fun j => decide (wo j = lw k)) (i + 1))) (by first | (refine bI_of_t ?_; simp [anyB, c_270, c_286]; done) | (refine bI_of_f ?_; simp [anyB, c_270, c_286]; done) | (refine bI_of_t ?_; simp [anyB, c_270]; done) | (refine bI_of_f ?_; simp [anyB, c_270]; done) | (refine bI_of_t ?_; simp [anyB]; done) | (refine bI_of_f ?_; simp [anyB]; done)) ?_
                              refine lv_istore_n (lv' := [(3, .int (bI (anyB (fun j => decide (wo j = lw k)) (i + 1)))), (4, .int (bI (allB (firB wo (lw k) (hg k)) (i + 1)))), (5, .int (nI i)), (2, .int (nI (wi k))), (0, .ref h), (1, .int (nI k))]) hx hb d_M_isAllowed_294 rfl hl (by decide) rfl (fun ls hl => ?_)
                              refine lv_iinc (v := (nI (i + 1))) (lv' := [(5, .int (nI (i + 1))), (3, .int (bI (anyB (fun j => decide (wo j = lw k)) (i + 1)))), (4, .int (bI (allB (firB wo (lw k) (hg k)) (i + 1)))), (2, .int (nI (wi k))), (0, .ref h), (1, .int (nI k))]) hx hb d_M_isAllowed_295 hl (k := 2) rfl (by exact nI_1 _) (by decide) rfl (fun ls hl => ?_)
                              refine lv_goto (tgt := 231) hx hb d_M_isAllowed_298 (by decide) ?_
                              exact ih231 (i + 1) (by omega) (by omega) _ _ _ hP hD hS (lv_sub hl [0, 2, 1, 3, 4, 5] rfl)
              exact L231 (wi k + 1) 0 (by omega) (by omega) _ _ _ hP hD hS (lv_sub hl [0, 1, 2, 3, 4, 5] rfl)
            · refine lv_iconst (v := (nI 0)) hx hb d_M_isAllowed_145 (by decide) ?_
              refine lv_istore_n (lv' := [(3, .int (nI 0)), (2, .int (nI (wi k))), (0, .ref h), (1, .int (nI k))]) hx hb d_M_isAllowed_146 rfl hl (by decide) rfl (fun ls hl => ?_)
              refine lv_iconst (v := (nI 0)) hx hb d_M_isAllowed_147 (by decide) ?_
              refine lv_istore (lv' := [(4, .int (nI 0)), (3, .int (nI 0)), (2, .int (nI (wi k))), (0, .ref h), (1, .int (nI k))]) hx hb d_M_isAllowed_148 hl (by decide) rfl (fun ls hl => ?_)
              have hl : lv_has ls 6 [(4, .int (nI 0)), (3, .int (nI (sm (fun j => if ki k = 4 then wo j else tlF wo (wh k) j) 0))), (2, .int (nI (wi k))), (0, .ref h), (1, .int (nI k))] := hl
              have L150 : ∀ (fuel150 : Nat) (i : Nat), (i ≤ wi k) → (wi k < i + fuel150) → ∀ (H : Heap) (locs : List Loc) (ls : Array Slot), va_P D cls [(h, .inr (10, oM ad nm mk rd cs)), (ad 10, .inl (cI, 10, .inl (nA ki))), (ad 11, .inl (cI, 10, .inl (nA wi))), (ad 14, .inl (cI, 10, .inl (nA lw))), (ad 15, .inl (cI, 10, .inl (nA hg))), (ad 16, .inl (cI, 10, .inl (nA wh))), (ad 17, .inl (cI, 10, .inl (nA mn))), (ad 18, .inl (cI, 200, .inl (nA tu))), (ad 19, .inl (cI, 300, .inl (nA sf))), (ad 20, .inl (cI, 300, .inl (nA sv))), (ad 21, .inl (cI, 300, .inl (nA so))), (ad 22, .inl (cI, 300, .inl (nA sc))), (ad 23, .inl (cI, 6, .inl (nA wo))), (ad 24, .inl (cI, 6, .inl (oA co))), (ad 25, .inl (cI, 6, .inl (oA af)))] H → va_D A [(h, .inr (10, oM ad nm mk rd cs)), (ad 10, .inl (cI, 10, .inl (nA ki))), (ad 11, .inl (cI, 10, .inl (nA wi))), (ad 14, .inl (cI, 10, .inl (nA lw))), (ad 15, .inl (cI, 10, .inl (nA hg))), (ad 16, .inl (cI, 10, .inl (nA wh))), (ad 17, .inl (cI, 10, .inl (nA mn))), (ad 18, .inl (cI, 200, .inl (nA tu))), (ad 19, .inl (cI, 300, .inl (nA sf))), (ad 20, .inl (cI, 300, .inl (nA sv))), (ad 21, .inl (cI, 300, .inl (nA so))), (ad 22, .inl (cI, 300, .inl (nA sc))), (ad 23, .inl (cI, 6, .inl (nA wo))), (ad 24, .inl (cI, 6, .inl (oA co))), (ad 25, .inl (cI, 6, .inl (oA af)))] → va_S A s.heap H locs → lv_has ls 6 [(4, .int (nI i)), (3, .int (nI (sm (fun j => if ki k = 4 then wo j else tlF wo (wh k) j) i))), (2, .int (nI (wi k))), (0, .ref h), (1, .int (nI k))] → W p l e { frames := 1, cells := 0, slots := 0, locals := 25 } s m ([.ref h, .int (nI k)] : List Value).toArray below meth c H locs 0 0 (MQ below (pstI D [(h, .inr (10, oM ad nm mk rd cs)), (ad 10, .inl (cI, 10, .inl (nA ki))), (ad 11, .inl (cI, 10, .inl (nA wi))), (ad 14, .inl (cI, 10, .inl (nA lw))), (ad 15, .inl (cI, 10, .inl (nA hg))), (ad 16, .inl (cI, 10, .inl (nA wh))), (ad 17, .inl (cI, 10, .inl (nA mn))), (ad 18, .inl (cI, 200, .inl (nA tu))), (ad 19, .inl (cI, 300, .inl (nA sf))), (ad 20, .inl (cI, 300, .inl (nA sv))), (ad 21, .inl (cI, 300, .inl (nA so))), (ad 22, .inl (cI, 300, .inl (nA sc))), (ad 23, .inl (cI, 6, .inl (nA wo))), (ad 24, .inl (cI, 6, .inl (oA co))), (ad 25, .inl (cI, 6, .inl (oA af)))] sz (fun (r : Int32) (u : (Nat → Option Nat) × (Nat → Option Nat)) => r = bI (alw (ki k) (wi k) (lw k) (hg k) (wh k) (anyB (tupA tu wo k (wi k)) (mn k)) (bsF (lw k) (coP sf sv so sc wo (30 * k) (mn k) (wi k)) 6) wo)) (fun u : (Nat → Option Nat) × (Nat → Option Nat) => [(h, .inr (10, oM ad nm mk rd cs)), (ad 10, .inl (cI, 10, .inl (nA ki))), (ad 11, .inl (cI, 10, .inl (nA wi))), (ad 14, .inl (cI, 10, .inl (nA lw))), (ad 15, .inl (cI, 10, .inl (nA hg))), (ad 16, .inl (cI, 10, .inl (nA wh))), (ad 17, .inl (cI, 10, .inl (nA mn))), (ad 18, .inl (cI, 200, .inl (nA tu))), (ad 19, .inl (cI, 300, .inl (nA sf))), (ad 20, .inl (cI, 300, .inl (nA sv))), (ad 21, .inl (cI, 300, .inl (nA so))), (ad 22, .inl (cI, 300, .inl (nA sc))), (ad 23, .inl (cI, 6, .inl (nA wo))), (ad 24, .inl (cI, 6, .inl (oA u.1))), (ad 25, .inl (cI, 6, .inl (oA u.2)))])) ([.ref h, .int (nI k)] : List Value).toArray s 0 0 A) (F0 m 150 ls []) := by
                intro fuel150
                induction fuel150 with
                | zero => intros; omega
                | succ fuel150 ih150 =>
                  intro i hi hfu H locs ls hP hD hS hl
                  refine lv_iload hx hb d_M_isAllowed_150 (lv_at hl 0 rfl) ?_
                  refine lv_iload_n hx hb d_M_isAllowed_152 rfl (lv_at hl 2 rfl) ?_
                  refine b_ge (tgt := 206) hx hb (by omega) (by omega) d_M_isAllowed_153 (by decide) (fun c_153 => ?_) (fun c_153 => ?_)
                  · have hie : i = wi k := by omega
                    have hsb : sm (fun j => if ki k = 4 then wo j else tlF wo (wh k) j) i ≤ 36 := sm_lt6 (fun v => by show (if _ then _ else (if _ then _ else _)) ≤ 6; have := hwo v; (repeat' split) <;> omega) (by omega)
                    refine lv_iload_n hx hb d_M_isAllowed_206 rfl (lv_at hl 1 rfl) ?_
                    refine lv_aload_n hx hb d_M_isAllowed_207 rfl (lv_at hl 3 rfl) ?_
                    refine r_get C0 hK hP 0 rfl rfl i_M 14 (by decide) wt_677 (fun _ h => h) rfl d_M_isAllowed_208 ?_
                    refine lv_iload_n hx hb d_M_isAllowed_211 rfl (lv_at hl 4 rfl) ?_
                    refine r_ald C0 hK hP 3 rfl (by omega) (by decide) d_M_isAllowed_212 ?_
                    refine t_eq (y := (nI (lw k))) rfl ?_
                    refine lv_aload_n hx hb d_M_isAllowed_213 rfl (lv_at hl 3 rfl) ?_
                    refine r_get C0 hK hP 0 rfl rfl i_M 15 (by decide) wt_678 (fun _ h => h) rfl d_M_isAllowed_214 ?_
                    refine lv_iload_n hx hb d_M_isAllowed_217 rfl (lv_at hl 4 rfl) ?_
                    refine r_ald C0 hK hP 4 rfl (by omega) (by decide) d_M_isAllowed_218 ?_
                    refine t_eq (y := (nI (hg k))) rfl ?_
                    refine call_i (rm := { frames := 0, cells := 0, slots := 0, locals := 0 }) hS hP hD hA (spl_mk (wc := []) (wr := [(h, .inr (10, oM ad nm mk rd cs)), (ad 10, .inl (cI, 10, .inl (nA ki))), (ad 11, .inl (cI, 10, .inl (nA wi))), (ad 14, .inl (cI, 10, .inl (nA lw))), (ad 15, .inl (cI, 10, .inl (nA hg))), (ad 16, .inl (cI, 10, .inl (nA wh))), (ad 17, .inl (cI, 10, .inl (nA mn))), (ad 18, .inl (cI, 200, .inl (nA tu))), (ad 19, .inl (cI, 300, .inl (nA sf))), (ad 20, .inl (cI, 300, .inl (nA sv))), (ad 21, .inl (cI, 300, .inl (nA so))), (ad 22, .inl (cI, 300, .inl (nA sc))), (ad 23, .inl (cI, 6, .inl (nA wo))), (ad 24, .inl (cI, 6, .inl (oA co))), (ad 25, .inl (cI, 6, .inl (oA af)))]) [] [0, 1, 2, 3, 4, 5, 6, 7, 8, 9, 10, 11, 12, 13, 14] rfl rfl (by decide)) (run_s (n := 3) (As := [.int (nI (sm (fun j => if ki k = 4 then wo j else tlF wo (wh k) j) i)), .int (nI (lw k)), .int (nI (hg k))]) (rest := []) C0 (hK.sub [] rfl) (c_M_isIn l D cI H.size (nI (sm (fun j => if ki k = 4 then wo j else tlF wo (wh k) j) i)) (nI (lw k)) (nI (hg k))) wt_758 wt_4 wt_756 wt_757 (by decide +kernel) ⟨Nat.le_of_ble_eq_true rfl, Nat.le_of_ble_eq_true rfl⟩ rfl hl.1 rfl (Nat.le_of_ble_eq_true rfl) d_M_isAllowed_219 ⟨Nat.le_of_ble_eq_true rfl, Nat.le_of_ble_eq_true rfl⟩) (fun r_219 _u219 H locs hw_219 hP hD hS => ?_)
                    have hP : va_P D cls [(h, .inr (10, oM ad nm mk rd cs)), (ad 10, .inl (cI, 10, .inl (nA ki))), (ad 11, .inl (cI, 10, .inl (nA wi))), (ad 14, .inl (cI, 10, .inl (nA lw))), (ad 15, .inl (cI, 10, .inl (nA hg))), (ad 16, .inl (cI, 10, .inl (nA wh))), (ad 17, .inl (cI, 10, .inl (nA mn))), (ad 18, .inl (cI, 200, .inl (nA tu))), (ad 19, .inl (cI, 300, .inl (nA sf))), (ad 20, .inl (cI, 300, .inl (nA sv))), (ad 21, .inl (cI, 300, .inl (nA so))), (ad 22, .inl (cI, 300, .inl (nA sc))), (ad 23, .inl (cI, 6, .inl (nA wo))), (ad 24, .inl (cI, 6, .inl (oA co))), (ad 25, .inl (cI, 6, .inl (oA af)))] H := hP
                    have hD : va_D A [(h, .inr (10, oM ad nm mk rd cs)), (ad 10, .inl (cI, 10, .inl (nA ki))), (ad 11, .inl (cI, 10, .inl (nA wi))), (ad 14, .inl (cI, 10, .inl (nA lw))), (ad 15, .inl (cI, 10, .inl (nA hg))), (ad 16, .inl (cI, 10, .inl (nA wh))), (ad 17, .inl (cI, 10, .inl (nA mn))), (ad 18, .inl (cI, 200, .inl (nA tu))), (ad 19, .inl (cI, 300, .inl (nA sf))), (ad 20, .inl (cI, 300, .inl (nA sv))), (ad 21, .inl (cI, 300, .inl (nA so))), (ad 22, .inl (cI, 300, .inl (nA sc))), (ad 23, .inl (cI, 6, .inl (nA wo))), (ad 24, .inl (cI, 6, .inl (oA co))), (ad 25, .inl (cI, 6, .inl (oA af)))] := hD
                    subst hw_219
                    refine t_eq (y := bI (decide (lw k ≤ sm (fun j => if ki k = 4 then wo j else tlF wo (wh k) j) i) && decide (sm (fun j => if ki k = 4 then wo j else tlF wo (wh k) j) i ≤ hg k))) (by rw [decide_eq_decide.mpr (nI_leI (by omega) (by omega)), decide_eq_decide.mpr (nI_leI (by omega) (by omega))]) ?_
                    have h45 : ki k = 4 ∨ ki k = 5 := by omega
                    have hne : ¬ ki k = 0 ∧ ¬ ki k = 1 ∧ ¬ ki k = 2 ∧ ¬ ki k = 3 := by omega
                    have hpo : bI (decide (lw k ≤ sm (fun j => if ki k = 4 then wo j else tlF wo (wh k) j) i) && decide (sm (fun j => if ki k = 4 then wo j else tlF wo (wh k) j) i ≤ hg k)) = bI (alw (ki k) (wi k) (lw k) (hg k) (wh k) (anyB (tupA tu wo k (wi k)) (mn k)) (bsF (lw k) (coP sf sv so sc wo (30 * k) (mn k) (wi k)) 6) wo) := by
                      unfold alw
                      rw [if_neg hne.1, if_neg hne.2.1, if_neg hne.2.2.1, if_neg hne.2.2.2, hie]
                      rcases h45 with h4 | h5
                      · rw [if_pos h4, sm_congr (g := wo) (fun v => by rw [if_pos h4])]
                      · rw [if_neg (show ¬ ki k = 4 by omega), if_pos h5, sm_congr (g := tlF wo (wh k)) (fun v => by rw [if_neg (show ¬ ki k = 4 by omega)])]
                    exact ret_i C0 hr hlk hAe hS (co, af) hpo hP hD (bI_n _) (Nat.le_of_ble_eq_true rfl) (Nat.le_of_ble_eq_true rfl) d_M_isAllowed_222
                  · have hvi := hwo i
                    refine lv_iload_n hx hb d_M_isAllowed_156 rfl (lv_at hl 1 rfl) ?_
                    refine lv_aload_n hx hb d_M_isAllowed_157 rfl (lv_at hl 3 rfl) ?_
                    refine r_get C0 hK hP 0 rfl rfl i_M 10 (by decide) wt_673 (fun _ h => h) rfl d_M_isAllowed_158 ?_
                    refine lv_iload_n hx hb d_M_isAllowed_161 rfl (lv_at hl 4 rfl) ?_
                    refine r_ald C0 hK hP 1 rfl (by omega) (by decide) d_M_isAllowed_162 ?_
                    refine t_eq (y := (nI (ki k))) rfl ?_
                    refine lv_iconst (v := (nI 4)) hx hb d_M_isAllowed_163 (by decide) ?_
                    refine b_ne (tgt := 177) hx hb (by omega) (by decide) d_M_isAllowed_164 (by decide) (fun c_164 => ?_) (fun c_164 => ?_)
                    · refine lv_aload_n hx hb d_M_isAllowed_177 rfl (lv_at hl 3 rfl) ?_
                      refine r_get C0 hK hP 0 rfl rfl i_M 23 (by decide) wt_686 (fun _ h => h) rfl d_M_isAllowed_178 ?_
                      refine lv_iload hx hb d_M_isAllowed_181 (lv_at hl 0 rfl) ?_
                      refine r_ald C0 hK hP 12 rfl (by omega) (by decide) d_M_isAllowed_183 ?_
                      refine t_eq (y := (nI (wo i))) rfl ?_
                      refine lv_aload_n hx hb d_M_isAllowed_184 rfl (lv_at hl 3 rfl) ?_
                      refine r_get C0 hK hP 0 rfl rfl i_M 16 (by decide) wt_679 (fun _ h => h) rfl d_M_isAllowed_185 ?_
                      refine lv_iload_n hx hb d_M_isAllowed_188 rfl (lv_at hl 4 rfl) ?_
                      refine r_ald C0 hK hP 5 rfl (by omega) (by decide) d_M_isAllowed_189 ?_
                      refine t_eq (y := (nI (wh k))) rfl ?_
                      refine b_ne (tgt := 197) hx hb (by omega) (by omega) d_M_isAllowed_190 (by decide) (fun c_190 => ?_) (fun c_190 => ?_)
                      · refine lv_iconst (v := (nI 0)) hx hb d_M_isAllowed_197 (by decide) ?_
                        refine lv_iadd hx hb d_M_isAllowed_198 ?_
                        refine t_eq (y := (nI ((sm (fun j => if ki k = 4 then wo j else tlF wo (wh k) j) i) + 0))) (nI_add _ _) ?_
                        refine t_eq (y := nI (sm (fun j => if ki k = 4 then wo j else tlF wo (wh k) j) (i + 1))) (by show _ = nI (_ + (if _ then _ else (if _ then _ else _))); first | (rw [if_pos c_164]; done) | (rw [if_neg c_164, if_pos c_190]; done) | (rw [if_neg c_164, if_neg c_190]; done)) ?_
                        refine lv_istore_n (lv' := [(3, .int (nI (sm (fun j => if ki k = 4 then wo j else tlF wo (wh k) j) (i + 1)))), (4, .int (nI i)), (2, .int (nI (wi k))), (0, .ref h), (1, .int (nI k))]) hx hb d_M_isAllowed_199 rfl hl (by decide) rfl (fun ls hl => ?_)
                        refine lv_iinc (v := (nI (i + 1))) (lv' := [(4, .int (nI (i + 1))), (3, .int (nI (sm (fun j => if ki k = 4 then wo j else tlF wo (wh k) j) (i + 1)))), (2, .int (nI (wi k))), (0, .ref h), (1, .int (nI k))]) hx hb d_M_isAllowed_200 hl (k := 1) rfl (by exact nI_1 _) (by decide) rfl (fun ls hl => ?_)
                        refine lv_goto (tgt := 150) hx hb d_M_isAllowed_203 (by decide) ?_
                        exact ih150 (i + 1) (by omega) (by omega) _ _ _ hP hD hS (lv_sub hl [0, 1, 2, 3, 4] rfl)
                      · refine lv_iconst (v := (nI 1)) hx hb d_M_isAllowed_193 (by decide) ?_
                        refine lv_goto (tgt := 198) hx hb d_M_isAllowed_194 (by decide) ?_
                        refine lv_iadd hx hb d_M_isAllowed_198 ?_
                        refine t_eq (y := (nI ((sm (fun j => if ki k = 4 then wo j else tlF wo (wh k) j) i) + 1))) (nI_add _ _) ?_
                        refine t_eq (y := nI (sm (fun j => if ki k = 4 then wo j else tlF wo (wh k) j) (i + 1))) (by show _ = nI (_ + (if _ then _ else (if _ then _ else _))); first | (rw [if_pos c_164]; done) | (rw [if_neg c_164, if_pos c_190]; done) | (rw [if_neg c_164, if_neg c_190]; done)) ?_
                        refine lv_istore_n (lv' := [(3, .int (nI (sm (fun j => if ki k = 4 then wo j else tlF wo (wh k) j) (i + 1)))), (4, .int (nI i)), (2, .int (nI (wi k))), (0, .ref h), (1, .int (nI k))]) hx hb d_M_isAllowed_199 rfl hl (by decide) rfl (fun ls hl => ?_)
                        refine lv_iinc (v := (nI (i + 1))) (lv' := [(4, .int (nI (i + 1))), (3, .int (nI (sm (fun j => if ki k = 4 then wo j else tlF wo (wh k) j) (i + 1)))), (2, .int (nI (wi k))), (0, .ref h), (1, .int (nI k))]) hx hb d_M_isAllowed_200 hl (k := 1) rfl (by exact nI_1 _) (by decide) rfl (fun ls hl => ?_)
                        refine lv_goto (tgt := 150) hx hb d_M_isAllowed_203 (by decide) ?_
                        exact ih150 (i + 1) (by omega) (by omega) _ _ _ hP hD hS (lv_sub hl [0, 1, 2, 3, 4] rfl)
                    · refine lv_aload_n hx hb d_M_isAllowed_167 rfl (lv_at hl 3 rfl) ?_
                      refine r_get C0 hK hP 0 rfl rfl i_M 23 (by decide) wt_686 (fun _ h => h) rfl d_M_isAllowed_168 ?_
                      refine lv_iload hx hb d_M_isAllowed_171 (lv_at hl 0 rfl) ?_
                      refine r_ald C0 hK hP 12 rfl (by omega) (by decide) d_M_isAllowed_173 ?_
                      refine t_eq (y := (nI (wo i))) rfl ?_
                      refine lv_goto (tgt := 198) hx hb d_M_isAllowed_174 (by decide) ?_
                      refine lv_iadd hx hb d_M_isAllowed_198 ?_
                      refine t_eq (y := (nI ((sm (fun j => if ki k = 4 then wo j else tlF wo (wh k) j) i) + (wo i)))) (nI_add _ _) ?_
                      refine t_eq (y := nI (sm (fun j => if ki k = 4 then wo j else tlF wo (wh k) j) (i + 1))) (by show _ = nI (_ + (if _ then _ else (if _ then _ else _))); first | (rw [if_pos c_164]; done) | (rw [if_neg c_164, if_pos c_190]; done) | (rw [if_neg c_164, if_neg c_190]; done)) ?_
                      refine lv_istore_n (lv' := [(3, .int (nI (sm (fun j => if ki k = 4 then wo j else tlF wo (wh k) j) (i + 1)))), (4, .int (nI i)), (2, .int (nI (wi k))), (0, .ref h), (1, .int (nI k))]) hx hb d_M_isAllowed_199 rfl hl (by decide) rfl (fun ls hl => ?_)
                      refine lv_iinc (v := (nI (i + 1))) (lv' := [(4, .int (nI (i + 1))), (3, .int (nI (sm (fun j => if ki k = 4 then wo j else tlF wo (wh k) j) (i + 1)))), (2, .int (nI (wi k))), (0, .ref h), (1, .int (nI k))]) hx hb d_M_isAllowed_200 hl (k := 1) rfl (by exact nI_1 _) (by decide) rfl (fun ls hl => ?_)
                      refine lv_goto (tgt := 150) hx hb d_M_isAllowed_203 (by decide) ?_
                      exact ih150 (i + 1) (by omega) (by omega) _ _ _ hP hD hS (lv_sub hl [0, 1, 2, 3, 4] rfl)
              exact L150 (wi k + 1) 0 (by omega) (by omega) _ _ _ hP hD hS (lv_sub hl [0, 1, 2, 3, 4] rfl)
        · refine lv_aload_n hx hb d_M_isAllowed_119 rfl (lv_at hl 1 rfl) ?_
          refine lv_iload_n hx hb d_M_isAllowed_120 rfl (lv_at hl 2 rfl) ?_
          refine call_i (rm := { frames := 0, cells := 0, slots := 0, locals := 0 }) hS hP hD hA (spl_mk (wc := [(h, .inr (10, oM ad nm mk rd cs)), (ad 11, .inl (cI, 10, .inl (nA wi))), (ad 14, .inl (cI, 10, .inl (nA lw))), (ad 23, .inl (cI, 6, .inl (nA wo)))]) (wr := [(ad 10, .inl (cI, 10, .inl (nA ki))), (ad 15, .inl (cI, 10, .inl (nA hg))), (ad 16, .inl (cI, 10, .inl (nA wh))), (ad 17, .inl (cI, 10, .inl (nA mn))), (ad 18, .inl (cI, 200, .inl (nA tu))), (ad 19, .inl (cI, 300, .inl (nA sf))), (ad 20, .inl (cI, 300, .inl (nA sv))), (ad 21, .inl (cI, 300, .inl (nA so))), (ad 22, .inl (cI, 300, .inl (nA sc))), (ad 24, .inl (cI, 6, .inl (oA co))), (ad 25, .inl (cI, 6, .inl (oA af)))]) [0, 2, 3, 12] [1, 4, 5, 6, 7, 8, 9, 10, 11, 13, 14] rfl rfl (by decide)) (run_v (n := 1) (As := [.int (nI k)]) (rest := []) (q0 := 0) (ci := 10) C0 (hK.sub [] rfl) (c_M_isInOrder l D cI s.heap.size h ad nm mk rd cs wi lw wo k (by omega) (by omega) (by omega) (fun j => Nat.lt_trans (hwo j) (by decide))) rfl rfl wt_852 wt_4 wt_849 wt_851 wp_27 (by decide +kernel) ⟨Nat.le_of_ble_eq_true rfl, Nat.le_of_ble_eq_true rfl⟩ rfl hl.1 rfl (Nat.le_of_ble_eq_true rfl) d_M_isAllowed_121 ⟨Nat.le_of_ble_eq_true rfl, Nat.le_of_ble_eq_true rfl⟩) (fun r_121 _u121 H locs hw_121 hP hD hS => ?_)
          have hP : va_P D cls [(ad 10, .inl (cI, 10, .inl (nA ki))), (ad 15, .inl (cI, 10, .inl (nA hg))), (ad 16, .inl (cI, 10, .inl (nA wh))), (ad 17, .inl (cI, 10, .inl (nA mn))), (ad 18, .inl (cI, 200, .inl (nA tu))), (ad 19, .inl (cI, 300, .inl (nA sf))), (ad 20, .inl (cI, 300, .inl (nA sv))), (ad 21, .inl (cI, 300, .inl (nA so))), (ad 22, .inl (cI, 300, .inl (nA sc))), (ad 24, .inl (cI, 6, .inl (oA co))), (ad 25, .inl (cI, 6, .inl (oA af))), (h, .inr (10, oM ad nm mk rd cs)), (ad 11, .inl (cI, 10, .inl (nA wi))), (ad 14, .inl (cI, 10, .inl (nA lw))), (ad 23, .inl (cI, 6, .inl (nA wo)))] H := hP
          have hD : va_D A [(ad 10, .inl (cI, 10, .inl (nA ki))), (ad 15, .inl (cI, 10, .inl (nA hg))), (ad 16, .inl (cI, 10, .inl (nA wh))), (ad 17, .inl (cI, 10, .inl (nA mn))), (ad 18, .inl (cI, 200, .inl (nA tu))), (ad 19, .inl (cI, 300, .inl (nA sf))), (ad 20, .inl (cI, 300, .inl (nA sv))), (ad 21, .inl (cI, 300, .inl (nA so))), (ad 22, .inl (cI, 300, .inl (nA sc))), (ad 24, .inl (cI, 6, .inl (oA co))), (ad 25, .inl (cI, 6, .inl (oA af))), (h, .inr (10, oM ad nm mk rd cs)), (ad 11, .inl (cI, 10, .inl (nA wi))), (ad 14, .inl (cI, 10, .inl (nA lw))), (ad 23, .inl (cI, 6, .inl (nA wo)))] := hD
          subst hw_121
          exact ret_i C0 hr hlk hAe hS (co, af) (by unfold alw; rw [if_neg c_13, if_neg c_29, if_neg c_66, if_pos c_116]) (hP.sub [11, 0, 12, 13, 1, 2, 3, 4, 5, 6, 7, 8, 14, 9, 10] rfl) (hD.sub [11, 0, 12, 13, 1, 2, 3, 4, 5, 6, 7, 8, 14, 9, 10] (by decide) rfl) (bI_n _) (Nat.le_of_ble_eq_true rfl) (Nat.le_of_ble_eq_true rfl) d_M_isAllowed_124
      · have hw3 := hw3 c_66
        have hv0 := hwo 0
        have hv1 := hwo 1
        have hv2 := hwo (2 + wo 0)
        refine lv_aload_n hx hb d_M_isAllowed_69 rfl (lv_at hl 1 rfl) ?_
        refine r_get C0 hK hP 0 rfl rfl i_M 23 (by decide) wt_686 (fun _ h => h) rfl d_M_isAllowed_70 ?_
        refine lv_iconst (v := (nI 0)) hx hb d_M_isAllowed_73 (by decide) ?_
        refine r_ald C0 hK hP 12 rfl (by omega) (by decide) d_M_isAllowed_74 ?_
        refine t_eq (y := (nI (wo 0))) rfl ?_
        refine lv_iload_n hx hb d_M_isAllowed_75 rfl (lv_at hl 0 rfl) ?_
        refine lv_iconst (v := (nI 2)) hx hb d_M_isAllowed_76 (by decide) ?_
        refine lv_isub hx hb d_M_isAllowed_77 ?_
        refine t_eq (y := (nI ((wi k) - 2))) (pk_sub (by omega)) ?_
        refine b_ge (tgt := 107) hx hb (by omega) (by omega) d_M_isAllowed_78 (by decide) (fun c_78 => ?_) (fun c_78 => ?_)
        · refine lv_iconst (v := (nI 0)) hx hb d_M_isAllowed_107 (by decide) ?_
          exact ret_i C0 hr hlk hAe hS (co, af) (by unfold alw; rw [if_neg c_13, if_neg c_29, if_pos c_66]; first | (refine bI_of_t ?_; simp [c_78, c_100]; done) | (refine bI_of_f ?_; simp [c_78, c_100]; done) | (refine bI_of_f ?_; simp [Nat.not_lt.mpr c_78]; done) | (refine bI_of_f ?_; simp; omega)) hP hD rfl (Nat.le_of_ble_eq_true rfl) (Nat.le_of_ble_eq_true rfl) d_M_isAllowed_108
        · refine lv_aload_n hx hb d_M_isAllowed_81 rfl (lv_at hl 1 rfl) ?_
          refine r_get C0 hK hP 0 rfl rfl i_M 23 (by decide) wt_686 (fun _ h => h) rfl d_M_isAllowed_82 ?_
          refine lv_iconst (v := (nI 2)) hx hb d_M_isAllowed_85 (by decide) ?_
          refine lv_aload_n hx hb d_M_isAllowed_86 rfl (lv_at hl 1 rfl) ?_
          refine r_get C0 hK hP 0 rfl rfl i_M 23 (by decide) wt_686 (fun _ h => h) rfl d_M_isAllowed_87 ?_
          refine lv_iconst (v := (nI 0)) hx hb d_M_isAllowed_90 (by decide) ?_
          refine r_ald C0 hK hP 12 rfl (by omega) (by decide) d_M_isAllowed_91 ?_
          refine t_eq (y := (nI (wo 0))) rfl ?_
          refine lv_iadd hx hb d_M_isAllowed_92 ?_
          refine t_eq (y := (nI (2 + (wo 0)))) (nI_add _ _) ?_
          refine r_ald C0 hK hP 12 rfl (by omega) (by decide) d_M_isAllowed_93 ?_
          refine t_eq (y := (nI (wo (2 + (wo 0))))) rfl ?_
          refine lv_aload_n hx hb d_M_isAllowed_94 rfl (lv_at hl 1 rfl) ?_
          refine r_get C0 hK hP 0 rfl rfl i_M 23 (by decide) wt_686 (fun _ h => h) rfl d_M_isAllowed_95 ?_
          refine lv_iconst (v := (nI 1)) hx hb d_M_isAllowed_98 (by decide) ?_
          refine r_ald C0 hK hP 12 rfl (by omega) (by decide) d_M_isAllowed_99 ?_
          refine t_eq (y := (nI (wo 1))) rfl ?_
          refine b_ne (tgt := 107) hx hb (by omega) (by omega) d_M_isAllowed_100 (by decide) (fun c_100 => ?_) (fun c_100 => ?_)
          · refine lv_iconst (v := (nI 0)) hx hb d_M_isAllowed_107 (by decide) ?_
            exact ret_i C0 hr hlk hAe hS (co, af) (by unfold alw; rw [if_neg c_13, if_neg c_29, if_pos c_66]; first | (refine bI_of_t ?_; simp [c_78, c_100]; done) | (refine bI_of_f ?_; simp [c_78, c_100]; done) | (refine bI_of_f ?_; simp [Nat.not_lt.mpr c_78]; done) | (refine bI_of_f ?_; simp; omega)) hP hD rfl (Nat.le_of_ble_eq_true rfl) (Nat.le_of_ble_eq_true rfl) d_M_isAllowed_108
          · refine lv_iconst (v := (nI 1)) hx hb d_M_isAllowed_103 (by decide) ?_
            refine lv_goto (tgt := 108) hx hb d_M_isAllowed_104 (by decide) ?_
            exact ret_i C0 hr hlk hAe hS (co, af) (by unfold alw; rw [if_neg c_13, if_neg c_29, if_pos c_66]; first | (refine bI_of_t ?_; simp [c_78, c_100]; done) | (refine bI_of_f ?_; simp [c_78, c_100]; done) | (refine bI_of_f ?_; simp [Nat.not_lt.mpr c_78]; done) | (refine bI_of_f ?_; simp; omega)) hP hD rfl (Nat.le_of_ble_eq_true rfl) (Nat.le_of_ble_eq_true rfl) d_M_isAllowed_108
    · refine lv_aload_n hx hb d_M_isAllowed_32 rfl (lv_at hl 1 rfl) ?_
      refine lv_iload_n hx hb d_M_isAllowed_33 rfl (lv_at hl 2 rfl) ?_
      refine call_i (rm := { frames := 0, cells := 0, slots := 0, locals := 0 }) hS hP hD hA (spl_mk (wc := [(h, .inr (10, oM ad nm mk rd cs)), (ad 11, .inl (cI, 10, .inl (nA wi))), (ad 14, .inl (cI, 10, .inl (nA lw))), (ad 17, .inl (cI, 10, .inl (nA mn))), (ad 19, .inl (cI, 300, .inl (nA sf))), (ad 20, .inl (cI, 300, .inl (nA sv))), (ad 21, .inl (cI, 300, .inl (nA so))), (ad 22, .inl (cI, 300, .inl (nA sc))), (ad 23, .inl (cI, 6, .inl (nA wo))), (ad 24, .inl (cI, 6, .inl (oA co))), (ad 25, .inl (cI, 6, .inl (oA af)))]) (wr := [(ad 10, .inl (cI, 10, .inl (nA ki))), (ad 15, .inl (cI, 10, .inl (nA hg))), (ad 16, .inl (cI, 10, .inl (nA wh))), (ad 18, .inl (cI, 200, .inl (nA tu)))]) [0, 2, 3, 6, 8, 9, 10, 11, 12, 13, 14] [1, 4, 5, 7] rfl rfl (by decide)) (run_v (n := 1) (As := [.int (nI k)]) (rest := []) (q0 := 0) (ci := 10) C0 (hK.sub [] rfl) (c_M_costOf l D cI s.heap.size h ad nm mk rd cs wi lw mn sf sv so sc wo co af k (by omega) (by omega) (by omega) (by omega) hsf hsv hso hsc (fun j => Nat.lt_trans (hwo j) (by decide))) rfl rfl wt_848 wt_4 wt_845 wt_847 wp_26 (by decide +kernel) ⟨Nat.le_of_ble_eq_true rfl, Nat.le_of_ble_eq_true rfl⟩ rfl hl.1 rfl (Nat.le_of_ble_eq_true rfl) d_M_isAllowed_34 ⟨Nat.le_of_ble_eq_true rfl, Nat.le_of_ble_eq_true rfl⟩) (fun r_34 u_34 H locs hw_34 hP hD hS => ?_)
      have hP : va_P D cls [(ad 10, .inl (cI, 10, .inl (nA ki))), (ad 15, .inl (cI, 10, .inl (nA hg))), (ad 16, .inl (cI, 10, .inl (nA wh))), (ad 18, .inl (cI, 200, .inl (nA tu))), (h, .inr (10, oM ad nm mk rd cs)), (ad 11, .inl (cI, 10, .inl (nA wi))), (ad 14, .inl (cI, 10, .inl (nA lw))), (ad 17, .inl (cI, 10, .inl (nA mn))), (ad 19, .inl (cI, 300, .inl (nA sf))), (ad 20, .inl (cI, 300, .inl (nA sv))), (ad 21, .inl (cI, 300, .inl (nA so))), (ad 22, .inl (cI, 300, .inl (nA sc))), (ad 23, .inl (cI, 6, .inl (nA wo))), (ad 24, .inl (cI, 6, .inl (oA u_34.1))), (ad 25, .inl (cI, 6, .inl (oA u_34.2)))] H := hP
      have hD : va_D A [(ad 10, .inl (cI, 10, .inl (nA ki))), (ad 15, .inl (cI, 10, .inl (nA hg))), (ad 16, .inl (cI, 10, .inl (nA wh))), (ad 18, .inl (cI, 200, .inl (nA tu))), (h, .inr (10, oM ad nm mk rd cs)), (ad 11, .inl (cI, 10, .inl (nA wi))), (ad 14, .inl (cI, 10, .inl (nA lw))), (ad 17, .inl (cI, 10, .inl (nA mn))), (ad 19, .inl (cI, 300, .inl (nA sf))), (ad 20, .inl (cI, 300, .inl (nA sv))), (ad 21, .inl (cI, 300, .inl (nA so))), (ad 22, .inl (cI, 300, .inl (nA sc))), (ad 23, .inl (cI, 6, .inl (nA wo))), (ad 24, .inl (cI, 6, .inl (oA u_34.1))), (ad 25, .inl (cI, 6, .inl (oA u_34.2)))] := hD
      subst hw_34
      refine lv_istore_n (lv' := [(3, .int (oI (bsF (lw k) (coP sf sv so sc wo (30 * k) (mn k) (wi k)) 6))), (2, .int (nI (wi k))), (0, .ref h), (1, .int (nI k))]) hx hb d_M_isAllowed_37 rfl hl (by decide) rfl (fun ls hl => ?_)
      refine lv_iload_n hx hb d_M_isAllowed_38 rfl (lv_at hl 0 rfl) ?_
      refine lv_iconst (v := (-1)) hx hb d_M_isAllowed_39 (by decide) ?_
      refine o_eq (tgt := 57) hx hb (fun y hy => Nat.lt_of_le_of_lt (bsF_le (coP_le hsc (wi k)) 6 y hy) (by omega)) d_M_isAllowed_40 (by decide) (fun c_40 => ?_) (fun y_40 c_40 => ?_)
      · refine lv_iconst (v := (nI 0)) hx hb d_M_isAllowed_57 (by decide) ?_
        exact ret_i C0 hr hlk hAe hS u_34 (by unfold alw; rw [if_neg c_13, if_pos c_29, c_40]; first | exact bI_of_t (decide_eq_true c_50) | exact bI_of_f (decide_eq_false (Nat.not_le.mpr c_50)) | rfl) (hP.sub [4, 0, 5, 6, 1, 2, 7, 3, 8, 9, 10, 11, 12, 13, 14] rfl) (hD.sub [4, 0, 5, 6, 1, 2, 7, 3, 8, 9, 10, 11, 12, 13, 14] (by decide) rfl) rfl (Nat.le_of_ble_eq_true rfl) (Nat.le_of_ble_eq_true rfl) d_M_isAllowed_58
      · have hyb := bsF_le (en := lw k) (coP_le (sf := sf) (sv := sv) (st := so) (wo := wo) (b := 30 * k) (m := mn k) hsc (wi k)) 6 _ c_40
        refine lv_iload_n hx hb d_M_isAllowed_43 rfl (lv_at hl 0 rfl) ?_
        refine t_eq (y := nI y_40) (by rw [c_40]; rfl) ?_
        refine lv_aload_n hx hb d_M_isAllowed_44 rfl (lv_at hl 2 rfl) ?_
        refine r_get C0 hK hP 4 rfl rfl i_M 15 (by decide) wt_678 (fun _ h => h) rfl d_M_isAllowed_45 ?_
        refine lv_iload_n hx hb d_M_isAllowed_48 rfl (lv_at hl 3 rfl) ?_
        refine r_ald C0 hK hP 1 rfl (by omega) (by decide) d_M_isAllowed_49 ?_
        refine t_eq (y := (nI (hg k))) rfl ?_
        refine b_gt (tgt := 57) hx hb (by omega) (by omega) d_M_isAllowed_50 (by decide) (fun c_50 => ?_) (fun c_50 => ?_)
        · refine lv_iconst (v := (nI 0)) hx hb d_M_isAllowed_57 (by decide) ?_
          exact ret_i C0 hr hlk hAe hS u_34 (by unfold alw; rw [if_neg c_13, if_pos c_29, c_40]; first | exact bI_of_t (decide_eq_true c_50) | exact bI_of_f (decide_eq_false (Nat.not_le.mpr c_50)) | rfl) (hP.sub [4, 0, 5, 6, 1, 2, 7, 3, 8, 9, 10, 11, 12, 13, 14] rfl) (hD.sub [4, 0, 5, 6, 1, 2, 7, 3, 8, 9, 10, 11, 12, 13, 14] (by decide) rfl) rfl (Nat.le_of_ble_eq_true rfl) (Nat.le_of_ble_eq_true rfl) d_M_isAllowed_58
        · refine lv_iconst (v := (nI 1)) hx hb d_M_isAllowed_53 (by decide) ?_
          refine lv_goto (tgt := 58) hx hb d_M_isAllowed_54 (by decide) ?_
          exact ret_i C0 hr hlk hAe hS u_34 (by unfold alw; rw [if_neg c_13, if_pos c_29, c_40]; first | exact bI_of_t (decide_eq_true c_50) | exact bI_of_f (decide_eq_false (Nat.not_le.mpr c_50)) | rfl) (hP.sub [4, 0, 5, 6, 1, 2, 7, 3, 8, 9, 10, 11, 12, 13, 14] rfl) (hD.sub [4, 0, 5, 6, 1, 2, 7, 3, 8, 9, 10, 11, 12, 13, 14] (by decide) rfl) rfl (Nat.le_of_ble_eq_true rfl) (Nat.le_of_ble_eq_true rfl) d_M_isAllowed_58
  · refine lv_aload_n hx hb d_M_isAllowed_16 rfl (lv_at hl 1 rfl) ?_
    refine lv_iload_n hx hb d_M_isAllowed_17 rfl (lv_at hl 2 rfl) ?_
    refine call_i (rm := { frames := 0, cells := 0, slots := 0, locals := 0 }) hS hP hD hA (spl_mk (wc := [(h, .inr (10, oM ad nm mk rd cs)), (ad 11, .inl (cI, 10, .inl (nA wi))), (ad 17, .inl (cI, 10, .inl (nA mn))), (ad 18, .inl (cI, 200, .inl (nA tu))), (ad 23, .inl (cI, 6, .inl (nA wo)))]) (wr := [(ad 10, .inl (cI, 10, .inl (nA ki))), (ad 14, .inl (cI, 10, .inl (nA lw))), (ad 15, .inl (cI, 10, .inl (nA hg))), (ad 16, .inl (cI, 10, .inl (nA wh))), (ad 19, .inl (cI, 300, .inl (nA sf))), (ad 20, .inl (cI, 300, .inl (nA sv))), (ad 21, .inl (cI, 300, .inl (nA so))), (ad 22, .inl (cI, 300, .inl (nA sc))), (ad 24, .inl (cI, 6, .inl (oA co))), (ad 25, .inl (cI, 6, .inl (oA af)))]) [0, 2, 6, 7, 12] [1, 3, 4, 5, 8, 9, 10, 11, 13, 14] rfl rfl (by decide)) (run_v (n := 1) (As := [.int (nI k)]) (rest := []) (q0 := 0) (ci := 10) C0 (hK.sub [] rfl) (c_M_isTuple l D cI s.heap.size h ad nm mk rd cs wi mn tu wo k (by omega) (by omega) (hmt c_13) htu (fun j => Nat.lt_trans (hwo j) (by decide))) rfl rfl wt_844 wt_4 wt_841 wt_843 wp_25 (by decide +kernel) ⟨Nat.le_of_ble_eq_true rfl, Nat.le_of_ble_eq_true rfl⟩ rfl hl.1 rfl (Nat.le_of_ble_eq_true rfl) d_M_isAllowed_18 ⟨Nat.le_of_ble_eq_true rfl, Nat.le_of_ble_eq_true rfl⟩) (fun r_18 _u18 H locs hw_18 hP hD hS => ?_)
    have hP : va_P D cls [(ad 10, .inl (cI, 10, .inl (nA ki))), (ad 14, .inl (cI, 10, .inl (nA lw))), (ad 15, .inl (cI, 10, .inl (nA hg))), (ad 16, .inl (cI, 10, .inl (nA wh))), (ad 19, .inl (cI, 300, .inl (nA sf))), (ad 20, .inl (cI, 300, .inl (nA sv))), (ad 21, .inl (cI, 300, .inl (nA so))), (ad 22, .inl (cI, 300, .inl (nA sc))), (ad 24, .inl (cI, 6, .inl (oA co))), (ad 25, .inl (cI, 6, .inl (oA af))), (h, .inr (10, oM ad nm mk rd cs)), (ad 11, .inl (cI, 10, .inl (nA wi))), (ad 17, .inl (cI, 10, .inl (nA mn))), (ad 18, .inl (cI, 200, .inl (nA tu))), (ad 23, .inl (cI, 6, .inl (nA wo)))] H := hP
    have hD : va_D A [(ad 10, .inl (cI, 10, .inl (nA ki))), (ad 14, .inl (cI, 10, .inl (nA lw))), (ad 15, .inl (cI, 10, .inl (nA hg))), (ad 16, .inl (cI, 10, .inl (nA wh))), (ad 19, .inl (cI, 300, .inl (nA sf))), (ad 20, .inl (cI, 300, .inl (nA sv))), (ad 21, .inl (cI, 300, .inl (nA so))), (ad 22, .inl (cI, 300, .inl (nA sc))), (ad 24, .inl (cI, 6, .inl (oA co))), (ad 25, .inl (cI, 6, .inl (oA af))), (h, .inr (10, oM ad nm mk rd cs)), (ad 11, .inl (cI, 10, .inl (nA wi))), (ad 17, .inl (cI, 10, .inl (nA mn))), (ad 18, .inl (cI, 200, .inl (nA tu))), (ad 23, .inl (cI, 6, .inl (nA wo)))] := hD
    subst hw_18
    exact ret_i C0 hr hlk hAe hS (co, af) (by unfold alw; rw [if_pos c_13]) (hP.sub [10, 0, 11, 1, 2, 3, 12, 13, 4, 5, 6, 7, 14, 8, 9] rfl) (hD.sub [10, 0, 11, 1, 2, 3, 12, 13, 4, 5, 6, 7, 14, 8, 9] (by decide) rfl) (bI_n _) (Nat.le_of_ble_eq_true rfl) (Nat.le_of_ble_eq_true rfl) d_M_isAllowed_21
