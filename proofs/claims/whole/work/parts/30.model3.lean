theorem up_eqO {f h : Nat → Option Nat} {i : Nat} {v : Option Nat} (hf : ∀ j, j < i → f j = h j) (hv : v = h i) : ∀ j, j < i + 1 → va_up f i v j = h j := fun j hj => by
  unfold va_up
  split
  · next q => subst q; exact hv
  · next q => exact hf j (by omega)
theorem bsS_0 {en q : Nat} {co : Nat → Option Nat} {o : Option Nat} (h : ¬ en / 2 ^ q % 2 = 1) : bsS en co q o = o := by
  unfold bsS
  rw [if_neg h]
theorem bsS_1 {en q : Nat} {co : Nat → Option Nat} {o : Option Nat} (h : co q = none) : bsS en co q o = o := by
  unfold bsS
  rw [h]
  split <;> rfl
theorem bsS_2 {en q y : Nat} {co : Nat → Option Nat} {o : Option Nat} (h : en / 2 ^ q % 2 = 1) (g : co q = some y) : bsS en co q o = some (omn y o) := by
  unfold bsS
  rw [if_pos h, g]
theorem bsF_le {en B : Nat} {co : Nat → Option Nat} (hc : leO B co) : ∀ i y, bsF en co i = some y → y ≤ B
  | 0, y, e => by cases e
  | i + 1, y, e => by
    have h := bsF_le (en := en) hc i
    have e : bsS en co i (bsF en co i) = some y := e
    by_cases g : en / 2 ^ i % 2 = 1
    · cases hq : co i with
      | none => rw [bsS_1 hq] at e; exact h y e
      | some z => rw [bsS_2 g hq] at e; cases e; exact omn_le (hc _ _ hq)
    · rw [bsS_0 g] at e; exact h y e
set_option maxHeartbeats 4000000 in
set_option maxRecDepth 100000 in
theorem c_M_costOf (l : Launch) (D : va_G) (cI : ClassId) (sz : Nat) (h : Nat) (ad : Nat → Nat) (nm : Nat) (mk : Nat) (rd : Nat) (cs : Nat) (wi : Nat → Nat) (lw : Nat → Nat) (mn : Nat → Nat) (sf : Nat → Nat) (sv : Nat → Nat) (so : Nat → Nat) (sc : Nat → Nat) (wo : Nat → Nat) (co : Nat → Option Nat) (af : Nat → Option Nat) (k : Nat) (hk : k < 10) (hwi : wi k ≤ 6) (hmn : mn k ≤ 30) (hlw : lw k < 64) (hsf : ∀ j, sf j < 6) (hsv : ∀ j, sv j < 6) (hso : ∀ j, so j < 6) (hsc : ∀ j, sc j ≤ 100) (hwo : ∀ j, wo j < 2147483648) : MetI l y_M_costOf b_M_costOf 6 (some .int) { frames := 0, cells := 0, slots := 0, locals := 0 } D cI [] sz [(h, .inr (10, oM ad nm mk rd cs)), (ad 11, .inl (cI, 10, .inl (nA wi))), (ad 14, .inl (cI, 10, .inl (nA lw))), (ad 17, .inl (cI, 10, .inl (nA mn))), (ad 19, .inl (cI, 300, .inl (nA sf))), (ad 20, .inl (cI, 300, .inl (nA sv))), (ad 21, .inl (cI, 300, .inl (nA so))), (ad 22, .inl (cI, 300, .inl (nA sc))), (ad 23, .inl (cI, 6, .inl (nA wo))), (ad 24, .inl (cI, 6, .inl (oA co))), (ad 25, .inl (cI, 6, .inl (oA af)))] [.ref h, .int (nI k)] (fun (r : Int32) (u : (Nat → Option Nat) × (Nat → Option Nat)) => r = oI (bsF (lw k) (coP sf sv so sc wo (30 * k) (mn k) (wi k)) 6)) (fun u : (Nat → Option Nat) × (Nat → Option Nat) => [(h, .inr (10, oM ad nm mk rd cs)), (ad 11, .inl (cI, 10, .inl (nA wi))), (ad 14, .inl (cI, 10, .inl (nA lw))), (ad 17, .inl (cI, 10, .inl (nA mn))), (ad 19, .inl (cI, 300, .inl (nA sf))), (ad 20, .inl (cI, 300, .inl (nA sv))), (ad 21, .inl (cI, 300, .inl (nA so))), (ad 22, .inl (cI, 300, .inl (nA sc))), (ad 23, .inl (cI, 6, .inl (nA wo))), (ad 24, .inl (cI, 6, .inl (oA u.1))), (ad 25, .inl (cI, 6, .inl (oA u.2)))]) := by
  refine enter (by decide) (Nat.le_of_ble_eq_true rfl) ?_
  intro p e s m below meth c A ls C0 hr hlk hnm hK hsz hA hAe hP hD hS hl
  have hx := C0.1
  have hb := C0.2.1
  have hl : lv_has ls 6 [(0, .ref h), (1, .int (nI k))] := hl
  refine lv_iconst (v := (nI 0)) hx hb d_M_costOf_0 (by decide) ?_
  refine lv_istore_n (lv' := [(2, .int (nI 0)), (0, .ref h), (1, .int (nI k))]) hx hb d_M_costOf_1 rfl hl (by decide) rfl (fun ls hl => ?_)
  have L2 : ∀ (fuel2 : Nat) (i : Nat) (f : Nat → Option Nat), (i ≤ 6) → (6 < i + fuel2) → (∀ j, j < i → f j = coP sf sv so sc wo (30 * k) (mn k) 0 j) → ∀ (H : Heap) (locs : List Loc) (ls : Array Slot), va_P D cls [(h, .inr (10, oM ad nm mk rd cs)), (ad 11, .inl (cI, 10, .inl (nA wi))), (ad 14, .inl (cI, 10, .inl (nA lw))), (ad 17, .inl (cI, 10, .inl (nA mn))), (ad 19, .inl (cI, 300, .inl (nA sf))), (ad 20, .inl (cI, 300, .inl (nA sv))), (ad 21, .inl (cI, 300, .inl (nA so))), (ad 22, .inl (cI, 300, .inl (nA sc))), (ad 23, .inl (cI, 6, .inl (nA wo))), (ad 24, .inl (cI, 6, .inl (oA f))), (ad 25, .inl (cI, 6, .inl (oA af)))] H → va_D A [(h, .inr (10, oM ad nm mk rd cs)), (ad 11, .inl (cI, 10, .inl (nA wi))), (ad 14, .inl (cI, 10, .inl (nA lw))), (ad 17, .inl (cI, 10, .inl (nA mn))), (ad 19, .inl (cI, 300, .inl (nA sf))), (ad 20, .inl (cI, 300, .inl (nA sv))), (ad 21, .inl (cI, 300, .inl (nA so))), (ad 22, .inl (cI, 300, .inl (nA sc))), (ad 23, .inl (cI, 6, .inl (nA wo))), (ad 24, .inl (cI, 6, .inl (oA f))), (ad 25, .inl (cI, 6, .inl (oA af)))] → va_S A s.heap H locs → lv_has ls 6 [(2, .int (nI i)), (0, .ref h), (1, .int (nI k))] → W p l e { frames := 0, cells := 0, slots := 0, locals := 0 } s m ([.ref h, .int (nI k)] : List Value).toArray below meth c H locs 0 0 (MQ below (pstI D [(h, .inr (10, oM ad nm mk rd cs)), (ad 11, .inl (cI, 10, .inl (nA wi))), (ad 14, .inl (cI, 10, .inl (nA lw))), (ad 17, .inl (cI, 10, .inl (nA mn))), (ad 19, .inl (cI, 300, .inl (nA sf))), (ad 20, .inl (cI, 300, .inl (nA sv))), (ad 21, .inl (cI, 300, .inl (nA so))), (ad 22, .inl (cI, 300, .inl (nA sc))), (ad 23, .inl (cI, 6, .inl (nA wo))), (ad 24, .inl (cI, 6, .inl (oA co))), (ad 25, .inl (cI, 6, .inl (oA af)))] sz (fun (r : Int32) (u : (Nat → Option Nat) × (Nat → Option Nat)) => r = oI (bsF (lw k) (coP sf sv so sc wo (30 * k) (mn k) (wi k)) 6)) (fun u : (Nat → Option Nat) × (Nat → Option Nat) => [(h, .inr (10, oM ad nm mk rd cs)), (ad 11, .inl (cI, 10, .inl (nA wi))), (ad 14, .inl (cI, 10, .inl (nA lw))), (ad 17, .inl (cI, 10, .inl (nA mn))), (ad 19, .inl (cI, 300, .inl (nA sf))), (ad 20, .inl (cI, 300, .inl (nA sv))), (ad 21, .inl (cI, 300, .inl (nA so))), (ad 22, .inl (cI, 300, .inl (nA sc))), (ad 23, .inl (cI, 6, .inl (nA wo))), (ad 24, .inl (cI, 6, .inl (oA u.1))), (ad 25, .inl (cI, 6, .inl (oA u.2)))])) ([.ref h, .int (nI k)] : List Value).toArray s 0 0 A) (F0 m 2 ls []) := by
    intro fuel2
    induction fuel2 with
    | zero => intros; omega
    | succ fuel2 ih2 =>
      intro i f hi hfu hf H locs ls hP hD hS hl
      refine lv_iload_n hx hb d_M_costOf_2 rfl (lv_at hl 0 rfl) ?_
      refine lv_bipush (v := (nI 6)) hx hb d_M_costOf_3 (by decide) ?_
      refine b_ge (tgt := 29) hx hb (by omega) (by decide) d_M_costOf_5 (by decide) (fun c_5 => ?_) (fun c_5 => ?_)
      · obtain rfl : i = 6 := (by omega)
        obtain ⟨hP, hD⟩ := arr_cong (q0 := 9) (f' := oA (coP sf sv so sc wo (30 * k) (mn k) 0)) rfl (fun j hj => congrArg oI (hf j hj)) hP hD
        have hP : va_P D cls [(h, .inr (10, oM ad nm mk rd cs)), (ad 11, .inl (cI, 10, .inl (nA wi))), (ad 14, .inl (cI, 10, .inl (nA lw))), (ad 17, .inl (cI, 10, .inl (nA mn))), (ad 19, .inl (cI, 300, .inl (nA sf))), (ad 20, .inl (cI, 300, .inl (nA sv))), (ad 21, .inl (cI, 300, .inl (nA so))), (ad 22, .inl (cI, 300, .inl (nA sc))), (ad 23, .inl (cI, 6, .inl (nA wo))), (ad 24, .inl (cI, 6, .inl (oA (coP sf sv so sc wo (30 * k) (mn k) 0)))), (ad 25, .inl (cI, 6, .inl (oA af)))] H := hP
        have hD : va_D A [(h, .inr (10, oM ad nm mk rd cs)), (ad 11, .inl (cI, 10, .inl (nA wi))), (ad 14, .inl (cI, 10, .inl (nA lw))), (ad 17, .inl (cI, 10, .inl (nA mn))), (ad 19, .inl (cI, 300, .inl (nA sf))), (ad 20, .inl (cI, 300, .inl (nA sv))), (ad 21, .inl (cI, 300, .inl (nA so))), (ad 22, .inl (cI, 300, .inl (nA sc))), (ad 23, .inl (cI, 6, .inl (nA wo))), (ad 24, .inl (cI, 6, .inl (oA (coP sf sv so sc wo (30 * k) (mn k) 0)))), (ad 25, .inl (cI, 6, .inl (oA af)))] := hD
        refine lv_iconst (v := (nI 0)) hx hb d_M_costOf_29 (by decide) ?_
        refine lv_istore_n (lv' := [(2, .int (nI 0)), (0, .ref h), (1, .int (nI k))]) hx hb d_M_costOf_30 rfl hl (by decide) rfl (fun ls hl => ?_)
        have L31 : ∀ (fuel31 : Nat) (pl : Nat) (g : Nat → Option Nat), (pl ≤ wi k) → (wi k < pl + fuel31) → ∀ (H : Heap) (locs : List Loc) (ls : Array Slot), va_P D cls [(h, .inr (10, oM ad nm mk rd cs)), (ad 11, .inl (cI, 10, .inl (nA wi))), (ad 14, .inl (cI, 10, .inl (nA lw))), (ad 17, .inl (cI, 10, .inl (nA mn))), (ad 19, .inl (cI, 300, .inl (nA sf))), (ad 20, .inl (cI, 300, .inl (nA sv))), (ad 21, .inl (cI, 300, .inl (nA so))), (ad 22, .inl (cI, 300, .inl (nA sc))), (ad 23, .inl (cI, 6, .inl (nA wo))), (ad 24, .inl (cI, 6, .inl (oA (coP sf sv so sc wo (30 * k) (mn k) pl)))), (ad 25, .inl (cI, 6, .inl (oA g)))] H → va_D A [(h, .inr (10, oM ad nm mk rd cs)), (ad 11, .inl (cI, 10, .inl (nA wi))), (ad 14, .inl (cI, 10, .inl (nA lw))), (ad 17, .inl (cI, 10, .inl (nA mn))), (ad 19, .inl (cI, 300, .inl (nA sf))), (ad 20, .inl (cI, 300, .inl (nA sv))), (ad 21, .inl (cI, 300, .inl (nA so))), (ad 22, .inl (cI, 300, .inl (nA sc))), (ad 23, .inl (cI, 6, .inl (nA wo))), (ad 24, .inl (cI, 6, .inl (oA (coP sf sv so sc wo (30 * k) (mn k) pl)))), (ad 25, .inl (cI, 6, .inl (oA g)))] → va_S A s.heap H locs → lv_has ls 6 [(2, .int (nI pl)), (0, .ref h), (1, .int (nI k))] → W p l e { frames := 0, cells := 0, slots := 0, locals := 0 } s m ([.ref h, .int (nI k)] : List Value).toArray below meth c H locs 0 0 (MQ below (pstI D [(h, .inr (10, oM ad nm mk rd cs)), (ad 11, .inl (cI, 10, .inl (nA wi))), (ad 14, .inl (cI, 10, .inl (nA lw))), (ad 17, .inl (cI, 10, .inl (nA mn))), (ad 19, .inl (cI, 300, .inl (nA sf))), (ad 20, .inl (cI, 300, .inl (nA sv))), (ad 21, .inl (cI, 300, .inl (nA so))), (ad 22, .inl (cI, 300, .inl (nA sc))), (ad 23, .inl (cI, 6, .inl (nA wo))), (ad 24, .inl (cI, 6, .inl (oA co))), (ad 25, .inl (cI, 6, .inl (oA af)))] sz (fun (r : Int32) (u : (Nat → Option Nat) × (Nat → Option Nat)) => r = oI (bsF (lw k) (coP sf sv so sc wo (30 * k) (mn k) (wi k)) 6)) (fun u : (Nat → Option Nat) × (Nat → Option Nat) => [(h, .inr (10, oM ad nm mk rd cs)), (ad 11, .inl (cI, 10, .inl (nA wi))), (ad 14, .inl (cI, 10, .inl (nA lw))), (ad 17, .inl (cI, 10, .inl (nA mn))), (ad 19, .inl (cI, 300, .inl (nA sf))), (ad 20, .inl (cI, 300, .inl (nA sv))), (ad 21, .inl (cI, 300, .inl (nA so))), (ad 22, .inl (cI, 300, .inl (nA sc))), (ad 23, .inl (cI, 6, .inl (nA wo))), (ad 24, .inl (cI, 6, .inl (oA u.1))), (ad 25, .inl (cI, 6, .inl (oA u.2)))])) ([.ref h, .int (nI k)] : List Value).toArray s 0 0 A) (F0 m 31 ls []) := by
          intro fuel31
          induction fuel31 with
          | zero => intros; omega
          | succ fuel31 ih31 =>
            intro pl g hp hfu H locs ls hP hD hS hl
            refine lv_iload_n hx hb d_M_costOf_31 rfl (lv_at hl 0 rfl) ?_
            refine lv_aload_n hx hb d_M_costOf_32 rfl (lv_at hl 1 rfl) ?_
            refine r_get C0 hK hP 0 rfl rfl i_M 11 (by decide) wt_674 (fun _ h => h) rfl d_M_costOf_33 ?_
            refine lv_iload_n hx hb d_M_costOf_36 rfl (lv_at hl 2 rfl) ?_
            refine r_ald C0 hK hP 1 rfl (by omega) (by decide) d_M_costOf_37 ?_
            refine t_eq (y := (nI (wi k))) rfl ?_
            refine b_ge (tgt := 220) hx hb (by omega) (by omega) d_M_costOf_38 (by decide) (fun c_38 => ?_) (fun c_38 => ?_)
            · have hpe : pl = wi k := by omega
              rw [hpe] at hP hD
              refine lv_iconst (v := (-1)) hx hb d_M_costOf_220 (by decide) ?_
              refine lv_istore_n (lv' := [(2, .int (-1)), (0, .ref h), (1, .int (nI k))]) hx hb d_M_costOf_221 rfl hl (by decide) rfl (fun ls hl => ?_)
              refine lv_iconst (v := (nI 0)) hx hb d_M_costOf_222 (by decide) ?_
              refine lv_istore_n (lv' := [(3, .int (nI 0)), (2, .int (-1)), (0, .ref h), (1, .int (nI k))]) hx hb d_M_costOf_223 rfl hl (by decide) rfl (fun ls hl => ?_)
              have hl : lv_has ls 6 [(3, .int (nI 0)), (2, .int (oI (bsF (lw k) (coP sf sv so sc wo (30 * k) (mn k) (wi k)) 0))), (0, .ref h), (1, .int (nI k))] := hl
              have L224 : ∀ (fuel224 : Nat) (q : Nat), (q ≤ 6) → (6 < q + fuel224) → ∀ (H : Heap) (locs : List Loc) (ls : Array Slot), va_P D cls [(h, .inr (10, oM ad nm mk rd cs)), (ad 11, .inl (cI, 10, .inl (nA wi))), (ad 14, .inl (cI, 10, .inl (nA lw))), (ad 17, .inl (cI, 10, .inl (nA mn))), (ad 19, .inl (cI, 300, .inl (nA sf))), (ad 20, .inl (cI, 300, .inl (nA sv))), (ad 21, .inl (cI, 300, .inl (nA so))), (ad 22, .inl (cI, 300, .inl (nA sc))), (ad 23, .inl (cI, 6, .inl (nA wo))), (ad 24, .inl (cI, 6, .inl (oA (coP sf sv so sc wo (30 * k) (mn k) (wi k))))), (ad 25, .inl (cI, 6, .inl (oA g)))] H → va_D A [(h, .inr (10, oM ad nm mk rd cs)), (ad 11, .inl (cI, 10, .inl (nA wi))), (ad 14, .inl (cI, 10, .inl (nA lw))), (ad 17, .inl (cI, 10, .inl (nA mn))), (ad 19, .inl (cI, 300, .inl (nA sf))), (ad 20, .inl (cI, 300, .inl (nA sv))), (ad 21, .inl (cI, 300, .inl (nA so))), (ad 22, .inl (cI, 300, .inl (nA sc))), (ad 23, .inl (cI, 6, .inl (nA wo))), (ad 24, .inl (cI, 6, .inl (oA (coP sf sv so sc wo (30 * k) (mn k) (wi k))))), (ad 25, .inl (cI, 6, .inl (oA g)))] → va_S A s.heap H locs → lv_has ls 6 [(3, .int (nI q)), (2, .int (oI (bsF (lw k) (coP sf sv so sc wo (30 * k) (mn k) (wi k)) q))), (0, .ref h), (1, .int (nI k))] → W p l e { frames := 0, cells := 0, slots := 0, locals := 0 } s m ([.ref h, .int (nI k)] : List Value).toArray below meth c H locs 0 0 (MQ below (pstI D [(h, .inr (10, oM ad nm mk rd cs)), (ad 11, .inl (cI, 10, .inl (nA wi))), (ad 14, .inl (cI, 10, .inl (nA lw))), (ad 17, .inl (cI, 10, .inl (nA mn))), (ad 19, .inl (cI, 300, .inl (nA sf))), (ad 20, .inl (cI, 300, .inl (nA sv))), (ad 21, .inl (cI, 300, .inl (nA so))), (ad 22, .inl (cI, 300, .inl (nA sc))), (ad 23, .inl (cI, 6, .inl (nA wo))), (ad 24, .inl (cI, 6, .inl (oA co))), (ad 25, .inl (cI, 6, .inl (oA af)))] sz (fun (r : Int32) (u : (Nat → Option Nat) × (Nat → Option Nat)) => r = oI (bsF (lw k) (coP sf sv so sc wo (30 * k) (mn k) (wi k)) 6)) (fun u : (Nat → Option Nat) × (Nat → Option Nat) => [(h, .inr (10, oM ad nm mk rd cs)), (ad 11, .inl (cI, 10, .inl (nA wi))), (ad 14, .inl (cI, 10, .inl (nA lw))), (ad 17, .inl (cI, 10, .inl (nA mn))), (ad 19, .inl (cI, 300, .inl (nA sf))), (ad 20, .inl (cI, 300, .inl (nA sv))), (ad 21, .inl (cI, 300, .inl (nA so))), (ad 22, .inl (cI, 300, .inl (nA sc))), (ad 23, .inl (cI, 6, .inl (nA wo))), (ad 24, .inl (cI, 6, .inl (oA u.1))), (ad 25, .inl (cI, 6, .inl (oA u.2)))])) ([.ref h, .int (nI k)] : List Value).toArray s 0 0 A) (F0 m 224 ls []) := by
                intro fuel224
                induction fuel224 with
                | zero => intros; omega
                | succ fuel224 ih224 =>
                  intro q hq0 hfu3 H locs ls hP hD hS hl
                  refine lv_iload_n hx hb d_M_costOf_224 rfl (lv_at hl 0 rfl) ?_
                  refine lv_bipush (v := (nI 6)) hx hb d_M_costOf_225 (by decide) ?_
                  refine b_ge (tgt := 282) hx hb (by omega) (by decide) d_M_costOf_227 (by decide) (fun c_227 => ?_) (fun c_227 => ?_)
                  · obtain rfl : q = 6 := (by omega)
                    refine lv_iload_n hx hb d_M_costOf_282 rfl (lv_at hl 1 rfl) ?_
                    exact ret_i C0 hr hlk hAe hS (coP sf sv so sc wo (30 * k) (mn k) (wi k), g) rfl hP hD rfl (Nat.le_of_ble_eq_true rfl) (Nat.le_of_ble_eq_true rfl) d_M_costOf_283
                  · refine lv_aload_n hx hb d_M_costOf_230 rfl (lv_at hl 2 rfl) ?_
                    refine r_get C0 hK hP 0 rfl rfl i_M 14 (by decide) wt_677 (fun _ h => h) rfl d_M_costOf_231 ?_
                    refine lv_iload_n hx hb d_M_costOf_234 rfl (lv_at hl 3 rfl) ?_
                    refine r_ald C0 hK hP 2 rfl (by omega) (by decide) d_M_costOf_235 ?_
                    refine t_eq (y := (nI (lw k))) rfl ?_
                    refine lv_iload_n hx hb d_M_costOf_236 rfl (lv_at hl 0 rfl) ?_
                    refine lv_ishr hx hb d_M_costOf_237 ?_
                    refine t_eq (y := (nI ((lw k) / 2 ^ q))) (m_shr (by omega) (by omega)) ?_
                    refine lv_iconst (v := (nI 1)) hx hb d_M_costOf_238 (by decide) ?_
                    refine lv_iand hx hb d_M_costOf_239 ?_
                    refine t_eq (y := (nI (((lw k) / 2 ^ q) % 2))) (m_and1 _) ?_
                    refine lv_iconst (v := (nI 1)) hx hb d_M_costOf_240 (by decide) ?_
                    refine b_ne (tgt := 276) hx hb (by omega) (by decide) d_M_costOf_241 (by decide) (fun c_241 => ?_) (fun c_241 => ?_)
                    · have hbs : bsF (lw k) (coP sf sv so sc wo (30 * k) (mn k) (wi k)) (q + 1) = bsF (lw k) (coP sf sv so sc wo (30 * k) (mn k) (wi k)) q := by
                        show bsS (lw k) (coP sf sv so sc wo (30 * k) (mn k) (wi k)) q (bsF (lw k) (coP sf sv so sc wo (30 * k) (mn k) (wi k)) q) = _
                        first | (rw [bsS_2 (by omega) c_251, c_256]; show some (if _ then _ else _) = _; rw [if_pos c_266]; done) | (rw [bsS_2 (by omega) c_251, c_256]; show some (if _ then _ else _) = _; rw [if_neg (Nat.not_lt.mpr c_266)]; done) | (rw [bsS_2 (by omega) c_251, c_256]; rfl) | exact bsS_1 c_251 | exact bsS_0 (by omega)
                      have hl : lv_has ls 6 [(3, .int (nI q)), (2, .int (oI (bsF (lw k) (coP sf sv so sc wo (30 * k) (mn k) (wi k)) (q + 1)))), (0, .ref h), (1, .int (nI k))] := by rw [hbs]; exact hl
                      refine lv_iinc (v := (nI (q + 1))) (lv' := [(3, .int (nI (q + 1))), (2, .int (oI (bsF (lw k) (coP sf sv so sc wo (30 * k) (mn k) (wi k)) (q + 1)))), (0, .ref h), (1, .int (nI k))]) hx hb d_M_costOf_276 hl (k := 0) rfl (by exact nI_1 _) (by decide) rfl (fun ls hl => ?_)
                      refine lv_goto (tgt := 224) hx hb d_M_costOf_279 (by decide) ?_
                      exact ih224 (q + 1) (by omega) (by omega) _ _ _ hP hD hS (lv_sub hl [0, 1, 2, 3] rfl)
                    · refine lv_aload_n hx hb d_M_costOf_244 rfl (lv_at hl 2 rfl) ?_
                      refine r_get C0 hK hP 0 rfl rfl i_M 24 (by decide) wt_687 (fun _ h => h) rfl d_M_costOf_245 ?_
                      refine lv_iload_n hx hb d_M_costOf_248 rfl (lv_at hl 0 rfl) ?_
                      refine r_ald C0 hK hP 9 rfl (by omega) (by decide) d_M_costOf_249 ?_
                      refine t_eq (y := (oI ((coP sf sv so sc wo (30 * k) (mn k) (wi k)) q))) rfl ?_
                      refine lv_iconst (v := (-1)) hx hb d_M_costOf_250 (by decide) ?_
                      refine o_eq (tgt := 276) hx hb (fun y hy => Nat.lt_of_le_of_lt (coP_le hsc (wi k) _ y hy) (by omega)) d_M_costOf_251 (by decide) (fun c_251 => ?_) (fun y_251 c_251 => ?_)
                      · have hbs : bsF (lw k) (coP sf sv so sc wo (30 * k) (mn k) (wi k)) (q + 1) = bsF (lw k) (coP sf sv so sc wo (30 * k) (mn k) (wi k)) q := by
                          show bsS (lw k) (coP sf sv so sc wo (30 * k) (mn k) (wi k)) q (bsF (lw k) (coP sf sv so sc wo (30 * k) (mn k) (wi k)) q) = _
                          first | (rw [bsS_2 (by omega) c_251, c_256]; show some (if _ then _ else _) = _; rw [if_pos c_266]; done) | (rw [bsS_2 (by omega) c_251, c_256]; show some (if _ then _ else _) = _; rw [if_neg (Nat.not_lt.mpr c_266)]; done) | (rw [bsS_2 (by omega) c_251, c_256]; rfl) | exact bsS_1 c_251 | exact bsS_0 (by omega)
                        have hl : lv_has ls 6 [(3, .int (nI q)), (2, .int (oI (bsF (lw k) (coP sf sv so sc wo (30 * k) (mn k) (wi k)) (q + 1)))), (0, .ref h), (1, .int (nI k))] := by rw [hbs]; exact hl
                        refine lv_iinc (v := (nI (q + 1))) (lv' := [(3, .int (nI (q + 1))), (2, .int (oI (bsF (lw k) (coP sf sv so sc wo (30 * k) (mn k) (wi k)) (q + 1)))), (0, .ref h), (1, .int (nI k))]) hx hb d_M_costOf_276 hl (k := 0) rfl (by exact nI_1 _) (by decide) rfl (fun ls hl => ?_)
                        refine lv_goto (tgt := 224) hx hb d_M_costOf_279 (by decide) ?_
                        exact ih224 (q + 1) (by omega) (by omega) _ _ _ hP hD hS (lv_sub hl [0, 1, 2, 3] rfl)
                      · have hyb := coP_le (sf := sf) (sv := sv) (st := so) (wo := wo) (b := 30 * k) (m := mn k) hsc (wi k) _ _ c_251
                        refine lv_iload_n hx hb d_M_costOf_254 rfl (lv_at hl 1 rfl) ?_
                        refine lv_iconst (v := (-1)) hx hb d_M_costOf_255 (by decide) ?_
                        refine o_eq (tgt := 269) hx hb (fun y hy => Nat.lt_of_le_of_lt (bsF_le (coP_le hsc (wi k)) q y hy) (by omega)) d_M_costOf_256 (by decide) (fun c_256 => ?_) (fun y_256 c_256 => ?_)
                        · refine lv_aload_n hx hb d_M_costOf_269 rfl (lv_at hl 2 rfl) ?_
                          refine r_get C0 hK hP 0 rfl rfl i_M 24 (by decide) wt_687 (fun _ h => h) rfl d_M_costOf_270 ?_
                          refine lv_iload_n hx hb d_M_costOf_273 rfl (lv_at hl 0 rfl) ?_
                          refine r_ald C0 hK hP 9 rfl (by omega) (by decide) d_M_costOf_274 ?_
                          refine t_eq (y := (oI ((coP sf sv so sc wo (30 * k) (mn k) (wi k)) q))) rfl ?_
                          refine t_eq (y := (nI y_251)) (by rw [c_251]; rfl) ?_
                          refine lv_istore_n (lv' := [(2, .int (nI y_251)), (3, .int (nI q)), (0, .ref h), (1, .int (nI k))]) hx hb d_M_costOf_275 rfl hl (by decide) rfl (fun ls hl => ?_)
                          have hbs : bsF (lw k) (coP sf sv so sc wo (30 * k) (mn k) (wi k)) (q + 1) = some y_251 := by
                            show bsS (lw k) (coP sf sv so sc wo (30 * k) (mn k) (wi k)) q (bsF (lw k) (coP sf sv so sc wo (30 * k) (mn k) (wi k)) q) = _
                            first | (rw [bsS_2 (by omega) c_251, c_256]; show some (if _ then _ else _) = _; rw [if_pos c_266]; done) | (rw [bsS_2 (by omega) c_251, c_256]; show some (if _ then _ else _) = _; rw [if_neg (Nat.not_lt.mpr c_266)]; done) | (rw [bsS_2 (by omega) c_251, c_256]; rfl) | exact bsS_1 c_251 | exact bsS_0 (by omega)
                          have hl : lv_has ls 6 [(2, .int (oI (bsF (lw k) (coP sf sv so sc wo (30 * k) (mn k) (wi k)) (q + 1)))), (3, .int (nI q)), (0, .ref h), (1, .int (nI k))] := by rw [hbs]; exact hl
                          refine lv_iinc (v := (nI (q + 1))) (lv' := [(3, .int (nI (q + 1))), (2, .int (oI (bsF (lw k) (coP sf sv so sc wo (30 * k) (mn k) (wi k)) (q + 1)))), (0, .ref h), (1, .int (nI k))]) hx hb d_M_costOf_276 hl (k := 1) rfl (by exact nI_1 _) (by decide) rfl (fun ls hl => ?_)
                          refine lv_goto (tgt := 224) hx hb d_M_costOf_279 (by decide) ?_
                          exact ih224 (q + 1) (by omega) (by omega) _ _ _ hP hD hS (lv_sub hl [0, 1, 2, 3] rfl)
                        · have hzb := bsF_le (en := lw k) (coP_le (sf := sf) (sv := sv) (st := so) (wo := wo) (b := 30 * k) (m := mn k) hsc (wi k)) q _ c_256
                          refine lv_aload_n hx hb d_M_costOf_259 rfl (lv_at hl 2 rfl) ?_
                          refine r_get C0 hK hP 0 rfl rfl i_M 24 (by decide) wt_687 (fun _ h => h) rfl d_M_costOf_260 ?_
                          refine lv_iload_n hx hb d_M_costOf_263 rfl (lv_at hl 0 rfl) ?_
                          refine r_ald C0 hK hP 9 rfl (by omega) (by decide) d_M_costOf_264 ?_
                          refine t_eq (y := (oI ((coP sf sv so sc wo (30 * k) (mn k) (wi k)) q))) rfl ?_
                          refine t_eq (y := (nI y_251)) (by rw [c_251]; rfl) ?_
                          refine lv_iload_n hx hb d_M_costOf_265 rfl (lv_at hl 1 rfl) ?_
                          refine t_eq (y := (nI y_256)) (by rw [c_256]; rfl) ?_
                          refine b_ge (tgt := 276) hx hb (by omega) (by omega) d_M_costOf_266 (by decide) (fun c_266 => ?_) (fun c_266 => ?_)
                          · have hbs : bsF (lw k) (coP sf sv so sc wo (30 * k) (mn k) (wi k)) (q + 1) = bsF (lw k) (coP sf sv so sc wo (30 * k) (mn k) (wi k)) q := by
                              show bsS (lw k) (coP sf sv so sc wo (30 * k) (mn k) (wi k)) q (bsF (lw k) (coP sf sv so sc wo (30 * k) (mn k) (wi k)) q) = _
                              first | (rw [bsS_2 (by omega) c_251, c_256]; show some (if _ then _ else _) = _; rw [if_pos c_266]; done) | (rw [bsS_2 (by omega) c_251, c_256]; show some (if _ then _ else _) = _; rw [if_neg (Nat.not_lt.mpr c_266)]; done) | (rw [bsS_2 (by omega) c_251, c_256]; rfl) | exact bsS_1 c_251 | exact bsS_0 (by omega)
                            have hl : lv_has ls 6 [(3, .int (nI q)), (2, .int (oI (bsF (lw k) (coP sf sv so sc wo (30 * k) (mn k) (wi k)) (q + 1)))), (0, .ref h), (1, .int (nI k))] := by rw [hbs]; exact hl
                            refine lv_iinc (v := (nI (q + 1))) (lv' := [(3, .int (nI (q + 1))), (2, .int (oI (bsF (lw k) (coP sf sv so sc wo (30 * k) (mn k) (wi k)) (q + 1)))), (0, .ref h), (1, .int (nI k))]) hx hb d_M_costOf_276 hl (k := 0) rfl (by exact nI_1 _) (by decide) rfl (fun ls hl => ?_)
                            refine lv_goto (tgt := 224) hx hb d_M_costOf_279 (by decide) ?_
                            exact ih224 (q + 1) (by omega) (by omega) _ _ _ hP hD hS (lv_sub hl [0, 1, 2, 3] rfl)
                          · refine lv_aload_n hx hb d_M_costOf_269 rfl (lv_at hl 2 rfl) ?_
                            refine r_get C0 hK hP 0 rfl rfl i_M 24 (by decide) wt_687 (fun _ h => h) rfl d_M_costOf_270 ?_
                            refine lv_iload_n hx hb d_M_costOf_273 rfl (lv_at hl 0 rfl) ?_
                            refine r_ald C0 hK hP 9 rfl (by omega) (by decide) d_M_costOf_274 ?_
                            refine t_eq (y := (oI ((coP sf sv so sc wo (30 * k) (mn k) (wi k)) q))) rfl ?_
                            refine t_eq (y := (nI y_251)) (by rw [c_251]; rfl) ?_
                            refine lv_istore_n (lv' := [(2, .int (nI y_251)), (3, .int (nI q)), (0, .ref h), (1, .int (nI k))]) hx hb d_M_costOf_275 rfl hl (by decide) rfl (fun ls hl => ?_)
                            have hbs : bsF (lw k) (coP sf sv so sc wo (30 * k) (mn k) (wi k)) (q + 1) = some y_251 := by
                              show bsS (lw k) (coP sf sv so sc wo (30 * k) (mn k) (wi k)) q (bsF (lw k) (coP sf sv so sc wo (30 * k) (mn k) (wi k)) q) = _
                              first | (rw [bsS_2 (by omega) c_251, c_256]; show some (if _ then _ else _) = _; rw [if_pos c_266]; done) | (rw [bsS_2 (by omega) c_251, c_256]; show some (if _ then _ else _) = _; rw [if_neg (Nat.not_lt.mpr c_266)]; done) | (rw [bsS_2 (by omega) c_251, c_256]; rfl) | exact bsS_1 c_251 | exact bsS_0 (by omega)
                            have hl : lv_has ls 6 [(2, .int (oI (bsF (lw k) (coP sf sv so sc wo (30 * k) (mn k) (wi k)) (q + 1)))), (3, .int (nI q)), (0, .ref h), (1, .int (nI k))] := by rw [hbs]; exact hl
                            refine lv_iinc (v := (nI (q + 1))) (lv' := [(3, .int (nI (q + 1))), (2, .int (oI (bsF (lw k) (coP sf sv so sc wo (30 * k) (mn k) (wi k)) (q + 1)))), (0, .ref h), (1, .int (nI k))]) hx hb d_M_costOf_276 hl (k := 1) rfl (by exact nI_1 _) (by decide) rfl (fun ls hl => ?_)
                            refine lv_goto (tgt := 224) hx hb d_M_costOf_279 (by decide) ?_
                            exact ih224 (q + 1) (by omega) (by omega) _ _ _ hP hD hS (lv_sub hl [0, 1, 2, 3] rfl)
              exact L224 (7) 0 (by omega) (by omega) _ _ _ hP hD hS (lv_sub hl [0, 1, 2, 3] rfl)
            · refine lv_iconst (v := (nI 0)) hx hb d_M_costOf_41 (by decide) ?_
              refine lv_istore_n (lv' := [(3, .int (nI 0)), (2, .int (nI pl)), (0, .ref h), (1, .int (nI k))]) hx hb d_M_costOf_42 rfl hl (by decide) rfl (fun ls hl => ?_)
              have L43 : ∀ (fuel43 : Nat) (i : Nat) (f : Nat → Option Nat), (i ≤ 6) → (6 < i + fuel43) → (∀ j, j < i → f j = none) → ∀ (H : Heap) (locs : List Loc) (ls : Array Slot), va_P D cls [(h, .inr (10, oM ad nm mk rd cs)), (ad 11, .inl (cI, 10, .inl (nA wi))), (ad 14, .inl (cI, 10, .inl (nA lw))), (ad 17, .inl (cI, 10, .inl (nA mn))), (ad 19, .inl (cI, 300, .inl (nA sf))), (ad 20, .inl (cI, 300, .inl (nA sv))), (ad 21, .inl (cI, 300, .inl (nA so))), (ad 22, .inl (cI, 300, .inl (nA sc))), (ad 23, .inl (cI, 6, .inl (nA wo))), (ad 24, .inl (cI, 6, .inl (oA (coP sf sv so sc wo (30 * k) (mn k) pl)))), (ad 25, .inl (cI, 6, .inl (oA f)))] H → va_D A [(h, .inr (10, oM ad nm mk rd cs)), (ad 11, .inl (cI, 10, .inl (nA wi))), (ad 14, .inl (cI, 10, .inl (nA lw))), (ad 17, .inl (cI, 10, .inl (nA mn))), (ad 19, .inl (cI, 300, .inl (nA sf))), (ad 20, .inl (cI, 300, .inl (nA sv))), (ad 21, .inl (cI, 300, .inl (nA so))), (ad 22, .inl (cI, 300, .inl (nA sc))), (ad 23, .inl (cI, 6, .inl (nA wo))), (ad 24, .inl (cI, 6, .inl (oA (coP sf sv so sc wo (30 * k) (mn k) pl)))), (ad 25, .inl (cI, 6, .inl (oA f)))] → va_S A s.heap H locs → lv_has ls 6 [(3, .int (nI i)), (2, .int (nI pl)), (0, .ref h), (1, .int (nI k))] → W p l e { frames := 0, cells := 0, slots := 0, locals := 0 } s m ([.ref h, .int (nI k)] : List Value).toArray below meth c H locs 0 0 (MQ below (pstI D [(h, .inr (10, oM ad nm mk rd cs)), (ad 11, .inl (cI, 10, .inl (nA wi))), (ad 14, .inl (cI, 10, .inl (nA lw))), (ad 17, .inl (cI, 10, .inl (nA mn))), (ad 19, .inl (cI, 300, .inl (nA sf))), (ad 20, .inl (cI, 300, .inl (nA sv))), (ad 21, .inl (cI, 300, .inl (nA so))), (ad 22, .inl (cI, 300, .inl (nA sc))), (ad 23, .inl (cI, 6, .inl (nA wo))), (ad 24, .inl (cI, 6, .inl (oA co))), (ad 25, .inl (cI, 6, .inl (oA af)))] sz (fun (r : Int32) (u : (Nat → Option Nat) × (Nat → Option Nat)) => r = oI (bsF (lw k) (coP sf sv so sc wo (30 * k) (mn k) (wi k)) 6)) (fun u : (Nat → Option Nat) × (Nat → Option Nat) => [(h, .inr (10, oM ad nm mk rd cs)), (ad 11, .inl (cI, 10, .inl (nA wi))), (ad 14, .inl (cI, 10, .inl (nA lw))), (ad 17, .inl (cI, 10, .inl (nA mn))), (ad 19, .inl (cI, 300, .inl (nA sf))), (ad 20, .inl (cI, 300, .inl (nA sv))), (ad 21, .inl (cI, 300, .inl (nA so))), (ad 22, .inl (cI, 300, .inl (nA sc))), (ad 23, .inl (cI, 6, .inl (nA wo))), (ad 24, .inl (cI, 6, .inl (oA u.1))), (ad 25, .inl (cI, 6, .inl (oA u.2)))])) ([.ref h, .int (nI k)] : List Value).toArray s 0 0 A) (F0 m 43 ls []) := by
                intro fuel43
                induction fuel43 with
                | zero => intros; omega
                | succ fuel43 ih43 =>
                  intro i f hi hfu2 hf H locs ls hP hD hS hl
                  refine lv_iload_n hx hb d_M_costOf_43 rfl (lv_at hl 0 rfl) ?_
                  refine lv_bipush (v := (nI 6)) hx hb d_M_costOf_44 (by decide) ?_
                  refine b_ge (tgt := 62) hx hb (by omega) (by decide) d_M_costOf_46 (by decide) (fun c_46 => ?_) (fun c_46 => ?_)
                  · obtain rfl : i = 6 := (by omega)
                    obtain ⟨hP, hD⟩ := arr_cong (q0 := 10) (f' := oA (csF sf sv so sc (30 * k) (wo pl) (coP sf sv so sc wo (30 * k) (mn k) pl) 0)) rfl (fun j hj => congrArg oI (hf j hj)) hP hD
                    have hP : va_P D cls [(h, .inr (10, oM ad nm mk rd cs)), (ad 11, .inl (cI, 10, .inl (nA wi))), (ad 14, .inl (cI, 10, .inl (nA lw))), (ad 17, .inl (cI, 10, .inl (nA mn))), (ad 19, .inl (cI, 300, .inl (nA sf))), (ad 20, .inl (cI, 300, .inl (nA sv))), (ad 21, .inl (cI, 300, .inl (nA so))), (ad 22, .inl (cI, 300, .inl (nA sc))), (ad 23, .inl (cI, 6, .inl (nA wo))), (ad 24, .inl (cI, 6, .inl (oA (coP sf sv so sc wo (30 * k) (mn k) pl)))), (ad 25, .inl (cI, 6, .inl (oA (csF sf sv so sc (30 * k) (wo pl) (coP sf sv so sc wo (30 * k) (mn k) pl) 0))))] H := hP
                    have hD : va_D A [(h, .inr (10, oM ad nm mk rd cs)), (ad 11, .inl (cI, 10, .inl (nA wi))), (ad 14, .inl (cI, 10, .inl (nA lw))), (ad 17, .inl (cI, 10, .inl (nA mn))), (ad 19, .inl (cI, 300, .inl (nA sf))), (ad 20, .inl (cI, 300, .inl (nA sv))), (ad 21, .inl (cI, 300, .inl (nA so))), (ad 22, .inl (cI, 300, .inl (nA sc))), (ad 23, .inl (cI, 6, .inl (nA wo))), (ad 24, .inl (cI, 6, .inl (oA (coP sf sv so sc wo (30 * k) (mn k) pl)))), (ad 25, .inl (cI, 6, .inl (oA (csF sf sv so sc (30 * k) (wo pl) (coP sf sv so sc wo (30 * k) (mn k) pl) 0))))] := hD
                    refine lv_bipush (v := (nI 30)) hx hb d_M_costOf_62 (by decide) ?_
                    refine lv_iload_n hx hb d_M_costOf_64 rfl (lv_at hl 3 rfl) ?_
                    refine lv_imul hx hb d_M_costOf_65 ?_
                    refine t_eq (y := (nI (30 * k))) (pk_mul _ _) ?_
                    refine lv_istore_n (lv' := [(3, .int (nI (30 * k))), (2, .int (nI pl)), (0, .ref h), (1, .int (nI k))]) hx hb d_M_costOf_66 rfl hl (by decide) rfl (fun ls hl => ?_)
                    have hl : lv_has ls 6 [(3, .int (nI (30 * k + 0))), (2, .int (nI pl)), (0, .ref h), (1, .int (nI k))] := hl
                    have L67 : ∀ (fuel67 : Nat) (i : Nat), (i ≤ mn k) → (mn k < i + fuel67) → ∀ (H : Heap) (locs : List Loc) (ls : Array Slot), va_P D cls [(h, .inr (10, oM ad nm mk rd cs)), (ad 11, .inl (cI, 10, .inl (nA wi))), (ad 14, .inl (cI, 10, .inl (nA lw))), (ad 17, .inl (cI, 10, .inl (nA mn))), (ad 19, .inl (cI, 300, .inl (nA sf))), (ad 20, .inl (cI, 300, .inl (nA sv))), (ad 21, .inl (cI, 300, .inl (nA so))), (ad 22, .inl (cI, 300, .inl (nA sc))), (ad 23, .inl (cI, 6, .inl (nA wo))), (ad 24, .inl (cI, 6, .inl (oA (coP sf sv so sc wo (30 * k) (mn k) pl)))), (ad 25, .inl (cI, 6, .inl (oA (csF sf sv so sc (30 * k) (wo pl) (coP sf sv so sc wo (30 * k) (mn k) pl) i))))] H → va_D A [(h, .inr (10, oM ad nm mk rd cs)), (ad 11, .inl (cI, 10, .inl (nA wi))), (ad 14, .inl (cI, 10, .inl (nA lw))), (ad 17, .inl (cI, 10, .inl (nA mn))), (ad 19, .inl (cI, 300, .inl (nA sf))), (ad 20, .inl (cI, 300, .inl (nA sv))), (ad 21, .inl (cI, 300, .inl (nA so))), (ad 22, .inl (cI, 300, .inl (nA sc))), (ad 23, .inl (cI, 6, .inl (nA wo))), (ad 24, .inl (cI, 6, .inl (oA (coP sf sv so sc wo (30 * k) (mn k) pl)))), (ad 25, .inl (cI, 6, .inl (oA (csF sf sv so sc (30 * k) (wo pl) (coP sf sv so sc wo (30 * k) (mn k) pl) i))))] → va_S A s.heap H locs → lv_has ls 6 [(3, .int (nI (30 * k + i))), (2, .int (nI pl)), (0, .ref h), (1, .int (nI k))] → W p l e { frames := 0, cells := 0, slots := 0, locals := 0 } s m ([.ref h, .int (nI k)] : List Value).toArray below meth c H locs 0 0 (MQ below (pstI D [(h, .inr (10, oM ad nm mk rd cs)), (ad 11, .inl (cI, 10, .inl (nA wi))), (ad 14, .inl (cI, 10, .inl (nA lw))), (ad 17, .inl (cI, 10, .inl (nA mn))), (ad 19, .inl (cI, 300, .inl (nA sf))), (ad 20, .inl (cI, 300, .inl (nA sv))), (ad 21, .inl (cI, 300, .inl (nA so))), (ad 22, .inl (cI, 300, .inl (nA sc))), (ad 23, .inl (cI, 6, .inl (nA wo))), (ad 24, .inl (cI, 6, .inl (oA co))), (ad 25, .inl (cI, 6, .inl (oA af)))] sz (fun (r : Int32) (u : (Nat → Option Nat) × (Nat → Option Nat)) => r = oI (bsF (lw k) (coP sf sv so sc wo (30 * k) (mn k) (wi k)) 6)) (fun u : (Nat → Option Nat) × (Nat → Option Nat) => [(h, .inr (10, oM ad nm mk rd cs)), (ad 11, .inl (cI, 10, .inl (nA wi))), (ad 14, .inl (cI, 10, .inl (nA lw))), (ad 17, .inl (cI, 10, .inl (nA mn))), (ad 19, .inl (cI, 300, .inl (nA sf))), (ad 20, .inl (cI, 300, .inl (nA sv))), (ad 21, .inl (cI, 300, .inl (nA so))), (ad 22, .inl (cI, 300, .inl (nA sc))), (ad 23, .inl (cI, 6, .inl (nA wo))), (ad 24, .inl (cI, 6, .inl (oA u.1))), (ad 25, .inl (cI, 6, .inl (oA u.2)))])) ([.ref h, .int (nI k)] : List Value).toArray s 0 0 A) (F0 m 67 ls []) := by
                      intro fuel67
                      induction fuel67 with
                      | zero => intros; omega
                      | succ fuel67 ih67 =>
                        intro i hi hfu2 H locs ls hP hD hS hl
                        have hs0 := hsv (30 * k + i)
                        have hs1 := hsf (30 * k + i)
                        have hs2 := hso (30 * k + i)
                        have hs3 := hsc (30 * k + i)
                        have hs4 := hwo pl
                        refine lv_iload_n hx hb d_M_costOf_67 rfl (lv_at hl 0 rfl) ?_
                        refine lv_bipush (v := (nI 30)) hx hb d_M_costOf_68 (by decide) ?_
                        refine lv_iload_n hx hb d_M_costOf_70 rfl (lv_at hl 3 rfl) ?_
                        refine lv_imul hx hb d_M_costOf_71 ?_
                        refine t_eq (y := (nI (30 * k))) (pk_mul _ _) ?_
                        refine lv_aload_n hx hb d_M_costOf_72 rfl (lv_at hl 2 rfl) ?_
                        refine r_get C0 hK hP 0 rfl rfl i_M 17 (by decide) wt_680 (fun _ h => h) rfl d_M_costOf_73 ?_
                        refine lv_iload_n hx hb d_M_costOf_76 rfl (lv_at hl 3 rfl) ?_
                        refine r_ald C0 hK hP 3 rfl (by omega) (by decide) d_M_costOf_77 ?_
                        refine t_eq (y := (nI (mn k))) rfl ?_
                        refine lv_iadd hx hb d_M_costOf_78 ?_
                        refine t_eq (y := (nI ((30 * k) + (mn k)))) (nI_add _ _) ?_
                        refine b_ge (tgt := 188) hx hb (by omega) (by omega) d_M_costOf_79 (by decide) (fun c_79 => ?_) (fun c_79 => ?_)
                        · have hie : i = mn k := by omega
                          rw [hie] at hP hD
                          have hl : lv_has ls 6 [(3, .int (nI (30 * k + (mn k)))), (2, .int (nI pl)), (0, .ref h), (1, .int (nI k))] := by rw [← hie]; exact hl
                          refine lv_iconst (v := (nI 0)) hx hb d_M_costOf_188 (by decide) ?_
                          refine lv_istore_n (lv' := [(3, .int (nI 0)), (2, .int (nI pl)), (0, .ref h), (1, .int (nI k))]) hx hb d_M_costOf_189 rfl hl (by decide) rfl (fun ls hl => ?_)
                          have L190 : ∀ (fuel190 : Nat) (i2 : Nat) (f : Nat → Option Nat), (i2 ≤ 6) → (6 < i2 + fuel190) → (∀ j, j < i2 → f j = csF sf sv so sc (30 * k) (wo pl) (coP sf sv so sc wo (30 * k) (mn k) pl) (mn k) j) → ∀ (H : Heap) (locs : List Loc) (ls : Array Slot), va_P D cls [(h, .inr (10, oM ad nm mk rd cs)), (ad 11, .inl (cI, 10, .inl (nA wi))), (ad 14, .inl (cI, 10, .inl (nA lw))), (ad 17, .inl (cI, 10, .inl (nA mn))), (ad 19, .inl (cI, 300, .inl (nA sf))), (ad 20, .inl (cI, 300, .inl (nA sv))), (ad 21, .inl (cI, 300, .inl (nA so))), (ad 22, .inl (cI, 300, .inl (nA sc))), (ad 23, .inl (cI, 6, .inl (nA wo))), (ad 24, .inl (cI, 6, .inl (oA f))), (ad 25, .inl (cI, 6, .inl (oA (csF sf sv so sc (30 * k) (wo pl) (coP sf sv so sc wo (30 * k) (mn k) pl) (mn k)))))] H → va_D A [(h, .inr (10, oM ad nm mk rd cs)), (ad 11, .inl (cI, 10, .inl (nA wi))), (ad 14, .inl (cI, 10, .inl (nA lw))), (ad 17, .inl (cI, 10, .inl (nA mn))), (ad 19, .inl (cI, 300, .inl (nA sf))), (ad 20, .inl (cI, 300, .inl (nA sv))), (ad 21, .inl (cI, 300, .inl (nA so))), (ad 22, .inl (cI, 300, .inl (nA sc))), (ad 23, .inl (cI, 6, .inl (nA wo))), (ad 24, .inl (cI, 6, .inl (oA f))), (ad 25, .inl (cI, 6, .inl (oA (csF sf sv so sc (30 * k) (wo pl) (coP sf sv so sc wo (30 * k) (mn k) pl) (mn k)))))] → va_S A s.heap H locs → lv_has ls 6 [(3, .int (nI i2)), (2, .int (nI pl)), (0, .ref h), (1, .int (nI k))] → W p l e { frames := 0, cells := 0, slots := 0, locals := 0 } s m ([.ref h, .int (nI k)] : List Value).toArray below meth c H locs 0 0 (MQ below (pstI D [(h, .inr (10, oM ad nm mk rd cs)), (ad 11, .inl (cI, 10, .inl (nA wi))), (ad 14, .inl (cI, 10, .inl (nA lw))), (ad 17, .inl (cI, 10, .inl (nA mn))), (ad 19, .inl (cI, 300, .inl (nA sf))), (ad 20, .inl (cI, 300, .inl (nA sv))), (ad 21, .inl (cI, 300, .inl (nA so))), (ad 22, .inl (cI, 300, .inl (nA sc))), (ad 23, .inl (cI, 6, .inl (nA wo))), (ad 24, .inl (cI, 6, .inl (oA co))), (ad 25, .inl (cI, 6, .inl (oA af)))] sz (fun (r : Int32) (u : (Nat → Option Nat) × (Nat → Option Nat)) => r = oI (bsF (lw k) (coP sf sv so sc wo (30 * k) (mn k) (wi k)) 6)) (fun u : (Nat → Option Nat) × (Nat → Option Nat) => [(h, .inr (10, oM ad nm mk rd cs)), (ad 11, .inl (cI, 10, .inl (nA wi))), (ad 14, .inl (cI, 10, .inl (nA lw))), (ad 17, .inl (cI, 10, .inl (nA mn))), (ad 19, .inl (cI, 300, .inl (nA sf))), (ad 20, .inl (cI, 300, .inl (nA sv))), (ad 21, .inl (cI, 300, .inl (nA so))), (ad 22, .inl (cI, 300, .inl (nA sc))), (ad 23, .inl (cI, 6, .inl (nA wo))), (ad 24, .inl (cI, 6, .inl (oA u.1))), (ad 25, .inl (cI, 6, .inl (oA u.2)))])) ([.ref h, .int (nI k)] : List Value).toArray s 0 0 A) (F0 m 190 ls []) := by
                            intro fuel190
                            induction fuel190 with
                            | zero => intros; omega
                            | succ fuel190 ih190 =>
                              intro i2 f hi2 hfu2 hf H locs ls hP hD hS hl
                              refine lv_iload_n hx hb d_M_costOf_190 rfl (lv_at hl 0 rfl) ?_
                              refine lv_bipush (v := (nI 6)) hx hb d_M_costOf_191 (by decide) ?_
                              refine b_ge (tgt := 214) hx hb (by omega) (by decide) d_M_costOf_193 (by decide) (fun c_193 => ?_) (fun c_193 => ?_)
                              · obtain rfl : i2 = 6 := (by omega)
                                obtain ⟨hP, hD⟩ := arr_cong (q0 := 9) (f' := oA (coP sf sv so sc wo (30 * k) (mn k) (pl + 1))) rfl (fun j hj => congrArg oI (hf j hj)) hP hD
                                have hP : va_P D cls [(h, .inr (10, oM ad nm mk rd cs)), (ad 11, .inl (cI, 10, .inl (nA wi))), (ad 14, .inl (cI, 10, .inl (nA lw))), (ad 17, .inl (cI, 10, .inl (nA mn))), (ad 19, .inl (cI, 300, .inl (nA sf))), (ad 20, .inl (cI, 300, .inl (nA sv))), (ad 21, .inl (cI, 300, .inl (nA so))), (ad 22, .inl (cI, 300, .inl (nA sc))), (ad 23, .inl (cI, 6, .inl (nA wo))), (ad 24, .inl (cI, 6, .inl (oA (coP sf sv so sc wo (30 * k) (mn k) (pl + 1))))), (ad 25, .inl (cI, 6, .inl (oA (csF sf sv so sc (30 * k) (wo pl) (coP sf sv so sc wo (30 * k) (mn k) pl) (mn k)))))] H := hP
                                have hD : va_D A [(h, .inr (10, oM ad nm mk rd cs)), (ad 11, .inl (cI, 10, .inl (nA wi))), (ad 14, .inl (cI, 10, .inl (nA lw))), (ad 17, .inl (cI, 10, .inl (nA mn))), (ad 19, .inl (cI, 300, .inl (nA sf))), (ad 20, .inl (cI, 300, .inl (nA sv))), (ad 21, .inl (cI, 300, .inl (nA so))), (ad 22, .inl (cI, 300, .inl (nA sc))), (ad 23, .inl (cI, 6, .inl (nA wo))), (ad 24, .inl (cI, 6, .inl (oA (coP sf sv so sc wo (30 * k) (mn k) (pl + 1))))), (ad 25, .inl (cI, 6, .inl (oA (csF sf sv so sc (30 * k) (wo pl) (coP sf sv so sc wo (30 * k) (mn k) pl) (mn k)))))] := hD
                                refine lv_iinc (v := (nI (pl + 1))) (lv' := [(2, .int (nI (pl + 1))), (3, .int (nI 6)), (0, .ref h), (1, .int (nI k))]) hx hb d_M_costOf_214 hl (k := 1) rfl (by exact nI_1 _) (by decide) rfl (fun ls hl => ?_)
                                refine lv_goto (tgt := 31) hx hb d_M_costOf_217 (by decide) ?_
                                exact ih31 (pl + 1) (csF sf sv so sc (30 * k) (wo pl) (coP sf sv so sc wo (30 * k) (mn k) pl) (mn k)) (by omega) (by omega) _ _ _ hP hD hS (lv_sub hl [0, 2, 3] rfl)
                              · refine lv_aload_n hx hb d_M_costOf_196 rfl (lv_at hl 2 rfl) ?_
                                refine r_get C0 hK hP 0 rfl rfl i_M 24 (by decide) wt_687 (fun _ h => h) rfl d_M_costOf_197 ?_
                                refine lv_iload_n hx hb d_M_costOf_200 rfl (lv_at hl 0 rfl) ?_
                                refine lv_aload_n hx hb d_M_costOf_201 rfl (lv_at hl 2 rfl) ?_
                                refine r_get C0 hK hP 0 rfl rfl i_M 25 (by decide) wt_688 (fun _ h => h) rfl d_M_costOf_202 ?_
                                refine lv_iload_n hx hb d_M_costOf_205 rfl (lv_at hl 0 rfl) ?_
                                refine r_ald C0 hK hP 10 rfl (by omega) (by decide) d_M_costOf_206 ?_
                                refine t_eq (y := (oI ((csF sf sv so sc (30 * k) (wo pl) (coP sf sv so sc wo (30 * k) (mn k) pl) (mn k)) i2))) rfl ?_
                                refine r_astP C0 hK hP hD hS 9 rfl (x := (csF sf sv so sc (30 * k) (wo pl) (coP sf sv so sc wo (30 * k) (mn k) pl) (mn k)) i2) (by omega) (by decide) d_M_costOf_207 (fun H locs hP hD hS => ?_)
                                have hP : va_P D cls [(h, .inr (10, oM ad nm mk rd cs)), (ad 11, .inl (cI, 10, .inl (nA wi))), (ad 14, .inl (cI, 10, .inl (nA lw))), (ad 17, .inl (cI, 10, .inl (nA mn))), (ad 19, .inl (cI, 300, .inl (nA sf))), (ad 20, .inl (cI, 300, .inl (nA sv))), (ad 21, .inl (cI, 300, .inl (nA so))), (ad 22, .inl (cI, 300, .inl (nA sc))), (ad 23, .inl (cI, 6, .inl (nA wo))), (ad 24, .inl (cI, 6, .inl (oA (va_up f i2 ((csF sf sv so sc (30 * k) (wo pl) (coP sf sv so sc wo (30 * k) (mn k) pl) (mn k)) i2))))), (ad 25, .inl (cI, 6, .inl (oA (csF sf sv so sc (30 * k) (wo pl) (coP sf sv so sc wo (30 * k) (mn k) pl) (mn k)))))] H := hP
                                have hD : va_D A [(h, .inr (10, oM ad nm mk rd cs)), (ad 11, .inl (cI, 10, .inl (nA wi))), (ad 14, .inl (cI, 10, .inl (nA lw))), (ad 17, .inl (cI, 10, .inl (nA mn))), (ad 19, .inl (cI, 300, .inl (nA sf))), (ad 20, .inl (cI, 300, .inl (nA sv))), (ad 21, .inl (cI, 300, .inl (nA so))), (ad 22, .inl (cI, 300, .inl (nA sc))), (ad 23, .inl (cI, 6, .inl (nA wo))), (ad 24, .inl (cI, 6, .inl (oA (va_up f i2 ((csF sf sv so sc (30 * k) (wo pl) (coP sf sv so sc wo (30 * k) (mn k) pl) (mn k)) i2))))), (ad 25, .inl (cI, 6, .inl (oA (csF sf sv so sc (30 * k) (wo pl) (coP sf sv so sc wo (30 * k) (mn k) pl) (mn k)))))] := hD
                                refine lv_iinc (v := (nI (i2 + 1))) (lv' := [(3, .int (nI (i2 + 1))), (2, .int (nI pl)), (0, .ref h), (1, .int (nI k))]) hx hb d_M_costOf_208 hl (k := 0) rfl (by exact nI_1 _) (by decide) rfl (fun ls hl => ?_)
                                refine lv_goto (tgt := 190) hx hb d_M_costOf_211 (by decide) ?_
                                exact ih190 (i2 + 1) (va_up f i2 ((csF sf sv so sc (30 * k) (wo pl) (coP sf sv so sc wo (30 * k) (mn k) pl) (mn k)) i2)) (by omega) (by omega) (up_eqO hf rfl) _ _ _ hP hD hS (lv_sub hl [0, 1, 2, 3] rfl)
                          exact L190 (7) 0 (coP sf sv so sc wo (30 * k) (mn k) pl) (by omega) (by omega) (fun _ h => absurd h (Nat.not_lt_zero _)) _ _ _ hP hD hS (lv_sub hl [0, 1, 2, 3] rfl)
                        · refine lv_aload_n hx hb d_M_costOf_82 rfl (lv_at hl 2 rfl) ?_
                          refine r_get C0 hK hP 0 rfl rfl i_M 20 (by decide) wt_683 (fun _ h => h) rfl d_M_costOf_83 ?_
                          refine lv_iload_n hx hb d_M_costOf_86 rfl (lv_at hl 0 rfl) ?_
                          refine r_ald C0 hK hP 5 rfl (by omega) (by decide) d_M_costOf_87 ?_
                          refine t_eq (y := (nI (sv (30 * k + i)))) rfl ?_
                          refine lv_aload_n hx hb d_M_costOf_88 rfl (lv_at hl 2 rfl) ?_
                          refine r_get C0 hK hP 0 rfl rfl i_M 23 (by decide) wt_686 (fun _ h => h) rfl d_M_costOf_89 ?_
                          refine lv_iload_n hx hb d_M_costOf_92 rfl (lv_at hl 1 rfl) ?_
                          refine r_ald C0 hK hP 8 rfl (by omega) (by decide) d_M_costOf_93 ?_
                          refine t_eq (y := (nI (wo pl))) rfl ?_
                          refine b_ne (tgt := 182) hx hb (by omega) (by omega) d_M_costOf_94 (by decide) (fun c_94 => ?_) (fun c_94 => ?_)
                          · have hcs : csF sf sv so sc (30 * k) (wo pl) (coP sf sv so sc wo (30 * k) (mn k) pl) (i + 1) = csF sf sv so sc (30 * k) (wo pl) (coP sf sv so sc wo (30 * k) (mn k) pl) i := by first | exact csS_0 c_109 | exact csS_n c_94
                            rw [show (csF sf sv so sc (30 * k) (wo pl) (coP sf sv so sc wo (30 * k) (mn k) pl) i) = csF sf sv so sc (30 * k) (wo pl) (coP sf sv so sc wo (30 * k) (mn k) pl) (i + 1) from hcs.symm] at hP hD
                            refine lv_iinc (v := (nI (30 * k + i + 1))) (lv' := [(3, .int (nI (30 * k + i + 1))), (2, .int (nI pl)), (0, .ref h), (1, .int (nI k))]) hx hb d_M_costOf_182 hl (k := 0) rfl (by exact nI_1 _) (by decide) rfl (fun ls hl => ?_)
                            refine lv_goto (tgt := 67) hx hb d_M_costOf_185 (by decide) ?_
                            exact ih67 (i + 1) (by omega) (by omega) _ _ _ hP hD hS (lv_sub hl [0, 1, 2, 3] rfl)
                          · refine lv_aload_n hx hb d_M_costOf_97 rfl (lv_at hl 2 rfl) ?_
                            refine r_get C0 hK hP 0 rfl rfl i_M 24 (by decide) wt_687 (fun _ h => h) rfl d_M_costOf_98 ?_
                            refine lv_aload_n hx hb d_M_costOf_101 rfl (lv_at hl 2 rfl) ?_
                            refine r_get C0 hK hP 0 rfl rfl i_M 19 (by decide) wt_682 (fun _ h => h) rfl d_M_costOf_102 ?_
                            refine lv_iload_n hx hb d_M_costOf_105 rfl (lv_at hl 0 rfl) ?_
                            refine r_ald C0 hK hP 4 rfl (by omega) (by decide) d_M_costOf_106 ?_
                            refine t_eq (y := (nI (sf (30 * k + i)))) rfl ?_
                            refine r_ald C0 hK hP 9 rfl (by omega) (by decide) d_M_costOf_107 ?_
                            refine t_eq (y := (oI ((coP sf sv so sc wo (30 * k) (mn k) pl) (sf (30 * k + i))))) rfl ?_
                            refine lv_iconst (v := (-1)) hx hb d_M_costOf_108 (by decide) ?_
                            refine o_eq (tgt := 182) hx hb (fun y hy => Nat.lt_of_le_of_lt (coP_le hsc pl _ y hy) (by omega)) d_M_costOf_109 (by decide) (fun c_109 => ?_) (fun y_109 c_109 => ?_)
                            · have hcs : csF sf sv so sc (30 * k) (wo pl) (coP sf sv so sc wo (30 * k) (mn k) pl) (i + 1) = csF sf sv so sc (30 * k) (wo pl) (coP sf sv so sc wo (30 * k) (mn k) pl) i := by first | exact csS_0 c_109 | exact csS_n c_94
                              rw [show (csF sf sv so sc (30 * k) (wo pl) (coP sf sv so sc wo (30 * k) (mn k) pl) i) = csF sf sv so sc (30 * k) (wo pl) (coP sf sv so sc wo (30 * k) (mn k) pl) (i + 1) from hcs.symm] at hP hD
                              refine lv_iinc (v := (nI (30 * k + i + 1))) (lv' := [(3, .int (nI (30 * k + i + 1))), (2, .int (nI pl)), (0, .ref h), (1, .int (nI k))]) hx hb d_M_costOf_182 hl (k := 0) rfl (by exact nI_1 _) (by decide) rfl (fun ls hl => ?_)
                              refine lv_goto (tgt := 67) hx hb d_M_costOf_185 (by decide) ?_
                              exact ih67 (i + 1) (by omega) (by omega) _ _ _ hP hD hS (lv_sub hl [0, 1, 2, 3] rfl)
                            · have hyb := coP_le (sf := sf) (sv := sv) (st := so) (wo := wo) (b := 30 * k) (m := mn k) hsc pl _ _ c_109
                              refine lv_aload_n hx hb d_M_costOf_112 rfl (lv_at hl 2 rfl) ?_
                              refine r_get C0 hK hP 0 rfl rfl i_M 24 (by decide) wt_687 (fun _ h => h) rfl d_M_costOf_113 ?_
                              refine lv_aload_n hx hb d_M_costOf_116 rfl (lv_at hl 2 rfl) ?_
                              refine r_get C0 hK hP 0 rfl rfl i_M 19 (by decide) wt_682 (fun _ h => h) rfl d_M_costOf_117 ?_
                              refine lv_iload_n hx hb d_M_costOf_120 rfl (lv_at hl 0 rfl) ?_
                              refine r_ald C0 hK hP 4 rfl (by omega) (by decide) d_M_costOf_121 ?_
                              refine t_eq (y := (nI (sf (30 * k + i)))) rfl ?_
                              refine r_ald C0 hK hP 9 rfl (by omega) (by decide) d_M_costOf_122 ?_
                              refine t_eq (y := (oI ((coP sf sv so sc wo (30 * k) (mn k) pl) (sf (30 * k + i))))) rfl ?_
                              refine t_eq (y := (nI y_109)) (by rw [c_109]; rfl) ?_
                              refine lv_aload_n hx hb d_M_costOf_123 rfl (lv_at hl 2 rfl) ?_
                              refine r_get C0 hK hP 0 rfl rfl i_M 22 (by decide) wt_685 (fun _ h => h) rfl d_M_costOf_124 ?_
                              refine lv_iload_n hx hb d_M_costOf_127 rfl (lv_at hl 0 rfl) ?_
                              refine r_ald C0 hK hP 7 rfl (by omega) (by decide) d_M_costOf_128 ?_
                              refine t_eq (y := (nI (sc (30 * k + i)))) rfl ?_
                              refine lv_iadd hx hb d_M_costOf_129 ?_
                              refine t_eq (y := (nI (y_109 + (sc (30 * k + i))))) (nI_add _ _) ?_
                              refine lv_istore (lv' := [(4, .int (nI (y_109 + (sc (30 * k + i))))), (3, .int (nI (30 * k + i))), (2, .int (nI pl)), (0, .ref h), (1, .int (nI k))]) hx hb d_M_costOf_130 hl (by decide) rfl (fun ls hl => ?_)
                              refine lv_aload_n hx hb d_M_costOf_132 rfl (lv_at hl 3 rfl) ?_
                              refine r_get C0 hK hP 0 rfl rfl i_M 21 (by decide) wt_684 (fun _ h => h) rfl d_M_costOf_133 ?_
                              refine lv_iload_n hx hb d_M_costOf_136 rfl (lv_at hl 1 rfl) ?_
                              refine r_ald C0 hK hP 6 rfl (by omega) (by decide) d_M_costOf_137 ?_
                              refine t_eq (y := (nI (so (30 * k + i)))) rfl ?_
                              refine lv_istore (lv' := [(5, .int (nI (so (30 * k + i)))), (4, .int (nI (y_109 + (sc (30 * k + i))))), (3, .int (nI (30 * k + i))), (2, .int (nI pl)), (0, .ref h), (1, .int (nI k))]) hx hb d_M_costOf_138 hl (by decide) rfl (fun ls hl => ?_)
                              refine lv_aload_n hx hb d_M_costOf_140 rfl (lv_at hl 4 rfl) ?_
                              refine r_get C0 hK hP 0 rfl rfl i_M 25 (by decide) wt_688 (fun _ h => h) rfl d_M_costOf_141 ?_
                              refine lv_iload hx hb d_M_costOf_144 (lv_at hl 0 rfl) ?_
                              refine lv_aload_n hx hb d_M_costOf_146 rfl (lv_at hl 4 rfl) ?_
                              refine r_get C0 hK hP 0 rfl rfl i_M 25 (by decide) wt_688 (fun _ h => h) rfl d_M_costOf_147 ?_
                              refine lv_iload hx hb d_M_costOf_150 (lv_at hl 0 rfl) ?_
                              refine r_ald C0 hK hP 10 rfl (by omega) (by decide) d_M_costOf_152 ?_
                              refine t_eq (y := (oI ((csF sf sv so sc (30 * k) (wo pl) (coP sf sv so sc wo (30 * k) (mn k) pl) i) (so (30 * k + i))))) rfl ?_
                              refine lv_iconst (v := (-1)) hx hb d_M_costOf_153 (by decide) ?_
                              refine o_eq (tgt := 169) hx hb (fun y hy => Nat.lt_of_le_of_lt (csF_le (coP_le hsc pl) hsc i _ y hy) (by omega)) d_M_costOf_154 (by decide) (fun c_154 => ?_) (fun y_154 c_154 => ?_)
                              · refine lv_iload hx hb d_M_costOf_169 (lv_at hl 1 rfl) ?_
                                refine lv_goto (tgt := 181) hx hb d_M_costOf_171 (by decide) ?_
                                refine r_astP C0 hK hP hD hS 10 rfl (x := some (y_109 + (sc (30 * k + i)))) (by omega) (by decide) d_M_costOf_181 (fun H locs hP hD hS => ?_)
                                have hP : va_P D cls [(h, .inr (10, oM ad nm mk rd cs)), (ad 11, .inl (cI, 10, .inl (nA wi))), (ad 14, .inl (cI, 10, .inl (nA lw))), (ad 17, .inl (cI, 10, .inl (nA mn))), (ad 19, .inl (cI, 300, .inl (nA sf))), (ad 20, .inl (cI, 300, .inl (nA sv))), (ad 21, .inl (cI, 300, .inl (nA so))), (ad 22, .inl (cI, 300, .inl (nA sc))), (ad 23, .inl (cI, 6, .inl (nA wo))), (ad 24, .inl (cI, 6, .inl (oA (coP sf sv so sc wo (30 * k) (mn k) pl)))), (ad 25, .inl (cI, 6, .inl (oA (va_up (csF sf sv so sc (30 * k) (wo pl) (coP sf sv so sc wo (30 * k) (mn k) pl) i) (so (30 * k + i)) (some (y_109 + (sc (30 * k + i))))))))] H := hP
                                have hD : va_D A [(h, .inr (10, oM ad nm mk rd cs)), (ad 11, .inl (cI, 10, .inl (nA wi))), (ad 14, .inl (cI, 10, .inl (nA lw))), (ad 17, .inl (cI, 10, .inl (nA mn))), (ad 19, .inl (cI, 300, .inl (nA sf))), (ad 20, .inl (cI, 300, .inl (nA sv))), (ad 21, .inl (cI, 300, .inl (nA so))), (ad 22, .inl (cI, 300, .inl (nA sc))), (ad 23, .inl (cI, 6, .inl (nA wo))), (ad 24, .inl (cI, 6, .inl (oA (coP sf sv so sc wo (30 * k) (mn k) pl)))), (ad 25, .inl (cI, 6, .inl (oA (va_up (csF sf sv so sc (30 * k) (wo pl) (coP sf sv so sc wo (30 * k) (mn k) pl) i) (so (30 * k + i)) (some (y_109 + (sc (30 * k + i))))))))] := hD
                                have hcs : va_up (csF sf sv so sc (30 * k) (wo pl) (coP sf sv so sc wo (30 * k) (mn k) pl) i) (so (30 * k + i)) (some (y_109 + (sc (30 * k + i)))) = csF sf sv so sc (30 * k) (wo pl) (coP sf sv so sc wo (30 * k) (mn k) pl) (i + 1) := by
                                  show _ = csS sf sv so sc (30 * k) (wo pl) (coP sf sv so sc wo (30 * k) (mn k) pl) i (csF sf sv so sc (30 * k) (wo pl) (coP sf sv so sc wo (30 * k) (mn k) pl) i)
                                  rw [csS_s c_94 c_109]
                                  first | (rw [c_154]; show va_up _ _ _ = va_up _ _ (some (if _ then _ else _)); rw [if_pos c_166]; done) | (rw [c_154]; show va_up _ _ _ = va_up _ _ (some (if _ then _ else _)); rw [if_neg (Nat.not_lt.mpr c_166)]; done) | (rw [c_154]; rfl)
                                rw [show (va_up (csF sf sv so sc (30 * k) (wo pl) (coP sf sv so sc wo (30 * k) (mn k) pl) i) (so (30 * k + i)) (some (y_109 + (sc (30 * k + i))))) = csF sf sv so sc (30 * k) (wo pl) (coP sf sv so sc wo (30 * k) (mn k) pl) (i + 1) from hcs] at hP hD
                                refine lv_iinc (v := (nI (30 * k + i + 1))) (lv' := [(3, .int (nI (30 * k + i + 1))), (5, .int (nI (so (30 * k + i)))), (4, .int (nI (y_109 + (sc (30 * k + i))))), (2, .int (nI pl)), (0, .ref h), (1, .int (nI k))]) hx hb d_M_costOf_182 hl (k := 2) rfl (by exact nI_1 _) (by decide) rfl (fun ls hl => ?_)
                                refine lv_goto (tgt := 67) hx hb d_M_costOf_185 (by decide) ?_
                                exact ih67 (i + 1) (by omega) (by omega) _ _ _ hP hD hS (lv_sub hl [0, 3, 4, 5] rfl)
                              · have hzb := csF_le (sf := sf) (sv := sv) (st := so) (b := 30 * k) (x := wo pl) (coP_le (sf := sf) (sv := sv) (st := so) (wo := wo) (b := 30 * k) (m := mn k) hsc pl) hsc i _ _ c_154
                                refine lv_iload hx hb d_M_costOf_157 (lv_at hl 1 rfl) ?_
                                refine lv_aload_n hx hb d_M_costOf_159 rfl (lv_at hl 4 rfl) ?_
                                refine r_get C0 hK hP 0 rfl rfl i_M 25 (by decide) wt_688 (fun _ h => h) rfl d_M_costOf_160 ?_
                                refine lv_iload hx hb d_M_costOf_163 (lv_at hl 0 rfl) ?_
                                refine r_ald C0 hK hP 10 rfl (by omega) (by decide) d_M_costOf_165 ?_
                                refine t_eq (y := (oI ((csF sf sv so sc (30 * k) (wo pl) (coP sf sv so sc wo (30 * k) (mn k) pl) i) (so (30 * k + i))))) rfl ?_
                                refine t_eq (y := (nI y_154)) (by rw [c_154]; rfl) ?_
                                refine b_ge (tgt := 174) hx hb (by omega) (by omega) d_M_costOf_166 (by decide) (fun c_166 => ?_) (fun c_166 => ?_)
                                · refine lv_aload_n hx hb d_M_costOf_174 rfl (lv_at hl 4 rfl) ?_
                                  refine r_get C0 hK hP 0 rfl rfl i_M 25 (by decide) wt_688 (fun _ h => h) rfl d_M_costOf_175 ?_
                                  refine lv_iload hx hb d_M_costOf_178 (lv_at hl 0 rfl) ?_
                                  refine r_ald C0 hK hP 10 rfl (by omega) (by decide) d_M_costOf_180 ?_
                                  refine t_eq (y := (oI ((csF sf sv so sc (30 * k) (wo pl) (coP sf sv so sc wo (30 * k) (mn k) pl) i) (so (30 * k + i))))) rfl ?_
                                  refine r_astP C0 hK hP hD hS 10 rfl (x := (csF sf sv so sc (30 * k) (wo pl) (coP sf sv so sc wo (30 * k) (mn k) pl) i) (so (30 * k + i))) (by omega) (by decide) d_M_costOf_181 (fun H locs hP hD hS => ?_)
                                  have hP : va_P D cls [(h, .inr (10, oM ad nm mk rd cs)), (ad 11, .inl (cI, 10, .inl (nA wi))), (ad 14, .inl (cI, 10, .inl (nA lw))), (ad 17, .inl (cI, 10, .inl (nA mn))), (ad 19, .inl (cI, 300, .inl (nA sf))), (ad 20, .inl (cI, 300, .inl (nA sv))), (ad 21, .inl (cI, 300, .inl (nA so))), (ad 22, .inl (cI, 300, .inl (nA sc))), (ad 23, .inl (cI, 6, .inl (nA wo))), (ad 24, .inl (cI, 6, .inl (oA (coP sf sv so sc wo (30 * k) (mn k) pl)))), (ad 25, .inl (cI, 6, .inl (oA (va_up (csF sf sv so sc (30 * k) (wo pl) (coP sf sv so sc wo (30 * k) (mn k) pl) i) (so (30 * k + i)) ((csF sf sv so sc (30 * k) (wo pl) (coP sf sv so sc wo (30 * k) (mn k) pl) i) (so (30 * k + i)))))))] H := hP
                                  have hD : va_D A [(h, .inr (10, oM ad nm mk rd cs)), (ad 11, .inl (cI, 10, .inl (nA wi))), (ad 14, .inl (cI, 10, .inl (nA lw))), (ad 17, .inl (cI, 10, .inl (nA mn))), (ad 19, .inl (cI, 300, .inl (nA sf))), (ad 20, .inl (cI, 300, .inl (nA sv))), (ad 21, .inl (cI, 300, .inl (nA so))), (ad 22, .inl (cI, 300, .inl (nA sc))), (ad 23, .inl (cI, 6, .inl (nA wo))), (ad 24, .inl (cI, 6, .inl (oA (coP sf sv so sc wo (30 * k) (mn k) pl)))), (ad 25, .inl (cI, 6, .inl (oA (va_up (csF sf sv so sc (30 * k) (wo pl) (coP sf sv so sc wo (30 * k) (mn k) pl) i) (so (30 * k + i)) ((csF sf sv so sc (30 * k) (wo pl) (coP sf sv so sc wo (30 * k) (mn k) pl) i) (so (30 * k + i)))))))] := hD
                                  have hcs : va_up (csF sf sv so sc (30 * k) (wo pl) (coP sf sv so sc wo (30 * k) (mn k) pl) i) (so (30 * k + i)) ((csF sf sv so sc (30 * k) (wo pl) (coP sf sv so sc wo (30 * k) (mn k) pl) i) (so (30 * k + i))) = csF sf sv so sc (30 * k) (wo pl) (coP sf sv so sc wo (30 * k) (mn k) pl) (i + 1) := by
                                    show _ = csS sf sv so sc (30 * k) (wo pl) (coP sf sv so sc wo (30 * k) (mn k) pl) i (csF sf sv so sc (30 * k) (wo pl) (coP sf sv so sc wo (30 * k) (mn k) pl) i)
                                    rw [csS_s c_94 c_109]
                                    first | (rw [c_154]; show va_up _ _ _ = va_up _ _ (some (if _ then _ else _)); rw [if_pos c_166]; done) | (rw [c_154]; show va_up _ _ _ = va_up _ _ (some (if _ then _ else _)); rw [if_neg (Nat.not_lt.mpr c_166)]; done) | (rw [c_154]; rfl)
                                  rw [show (va_up (csF sf sv so sc (30 * k) (wo pl) (coP sf sv so sc wo (30 * k) (mn k) pl) i) (so (30 * k + i)) ((csF sf sv so sc (30 * k) (wo pl) (coP sf sv so sc wo (30 * k) (mn k) pl) i) (so (30 * k + i)))) = csF sf sv so sc (30 * k) (wo pl) (coP sf sv so sc wo (30 * k) (mn k) pl) (i + 1) from hcs] at hP hD
                                  refine lv_iinc (v := (nI (30 * k + i + 1))) (lv' := [(3, .int (nI (30 * k + i + 1))), (5, .int (nI (so (30 * k + i)))), (4, .int (nI (y_109 + (sc (30 * k + i))))), (2, .int (nI pl)), (0, .ref h), (1, .int (nI k))]) hx hb d_M_costOf_182 hl (k := 2) rfl (by exact nI_1 _) (by decide) rfl (fun ls hl => ?_)
                                  refine lv_goto (tgt := 67) hx hb d_M_costOf_185 (by decide) ?_
                                  exact ih67 (i + 1) (by omega) (by omega) _ _ _ hP hD hS (lv_sub hl [0, 3, 4, 5] rfl)
                                · refine lv_iload hx hb d_M_costOf_169 (lv_at hl 1 rfl) ?_
                                  refine lv_goto (tgt := 181) hx hb d_M_costOf_171 (by decide) ?_
                                  refine r_astP C0 hK hP hD hS 10 rfl (x := some (y_109 + (sc (30 * k + i)))) (by omega) (by decide) d_M_costOf_181 (fun H locs hP hD hS => ?_)
                                  have hP : va_P D cls [(h, .inr (10, oM ad nm mk rd cs)), (ad 11, .inl (cI, 10, .inl (nA wi))), (ad 14, .inl (cI, 10, .inl (nA lw))), (ad 17, .inl (cI, 10, .inl (nA mn))), (ad 19, .inl (cI, 300, .inl (nA sf))), (ad 20, .inl (cI, 300, .inl (nA sv))), (ad 21, .inl (cI, 300, .inl (nA so))), (ad 22, .inl (cI, 300, .inl (nA sc))), (ad 23, .inl (cI, 6, .inl (nA wo))), (ad 24, .inl (cI, 6, .inl (oA (coP sf sv so sc wo (30 * k) (mn k) pl)))), (ad 25, .inl (cI, 6, .inl (oA (va_up (csF sf sv so sc (30 * k) (wo pl) (coP sf sv so sc wo (30 * k) (mn k) pl) i) (so (30 * k + i)) (some (y_109 + (sc (30 * k + i))))))))] H := hP
                                  have hD : va_D A [(h, .inr (10, oM ad nm mk rd cs)), (ad 11, .inl (cI, 10, .inl (nA wi))), (ad 14, .inl (cI, 10, .inl (nA lw))), (ad 17, .inl (cI, 10, .inl (nA mn))), (ad 19, .inl (cI, 300, .inl (nA sf))), (ad 20, .inl (cI, 300, .inl (nA sv))), (ad 21, .inl (cI, 300, .inl (nA so))), (ad 22, .inl (cI, 300, .inl (nA sc))), (ad 23, .inl (cI, 6, .inl (nA wo))), (ad 24, .inl (cI, 6, .inl (oA (coP sf sv so sc wo (30 * k) (mn k) pl)))), (ad 25, .inl (cI, 6, .inl (oA (va_up (csF sf sv so sc (30 * k) (wo pl) (coP sf sv so sc wo (30 * k) (mn k) pl) i) (so (30 * k + i)) (some (y_109 + (sc (30 * k + i))))))))] := hD
                                  have hcs : va_up (csF sf sv so sc (30 * k) (wo pl) (coP sf sv so sc wo (30 * k) (mn k) pl) i) (so (30 * k + i)) (some (y_109 + (sc (30 * k + i)))) = csF sf sv so sc (30 * k) (wo pl) (coP sf sv so sc wo (30 * k) (mn k) pl) (i + 1) := by
                                    show _ = csS sf sv so sc (30 * k) (wo pl) (coP sf sv so sc wo (30 * k) (mn k) pl) i (csF sf sv so sc (30 * k) (wo pl) (coP sf sv so sc wo (30 * k) (mn k) pl) i)
                                    rw [csS_s c_94 c_109]
                                    first | (rw [c_154]; show va_up _ _ _ = va_up _ _ (some (if _ then _ else _)); rw [if_pos c_166]; done) | (rw [c_154]; show va_up _ _ _ = va_up _ _ (some (if _ then _ else _)); rw [if_neg (Nat.not_lt.mpr c_166)]; done) | (rw [c_154]; rfl)
                                  rw [show (va_up (csF sf sv so sc (30 * k) (wo pl) (coP sf sv so sc wo (30 * k) (mn k) pl) i) (so (30 * k + i)) (some (y_109 + (sc (30 * k + i))))) = csF sf sv so sc (30 * k) (wo pl) (coP sf sv so sc wo (30 * k) (mn k) pl) (i + 1) from hcs] at hP hD
                                  refine lv_iinc (v := (nI (30 * k + i + 1))) (lv' := [(3, .int (nI (30 * k + i + 1))), (5, .int (nI (so (30 * k + i)))), (4, .int (nI (y_109 + (sc (30 * k + i))))), (2, .int (nI pl)), (0, .ref h), (1, .int (nI k))]) hx hb d_M_costOf_182 hl (k := 2) rfl (by exact nI_1 _) (by decide) rfl (fun ls hl => ?_)
                                  refine lv_goto (tgt := 67) hx hb d_M_costOf_185 (by decide) ?_
                                  exact ih67 (i + 1) (by omega) (by omega) _ _ _ hP hD hS (lv_sub hl [0, 3, 4, 5] rfl)
                    exact L67 (mn k + 1) 0 (by omega) (by omega) _ _ _ hP hD hS (lv_sub hl [0, 1, 2, 3] rfl)
                  · refine lv_aload_n hx hb d_M_costOf_49 rfl (lv_at hl 2 rfl) ?_
                    refine r_get C0 hK hP 0 rfl rfl i_M 25 (by decide) wt_688 (fun _ h => h) rfl d_M_costOf_50 ?_
                    refine lv_iload_n hx hb d_M_costOf_53 rfl (lv_at hl 0 rfl) ?_
                    refine lv_iconst (v := (-1)) hx hb d_M_costOf_54 (by decide) ?_
                    refine r_astP C0 hK hP hD hS 10 rfl (x := none) (by omega) (by decide) d_M_costOf_55 (fun H locs hP hD hS => ?_)
                    have hP : va_P D cls [(h, .inr (10, oM ad nm mk rd cs)), (ad 11, .inl (cI, 10, .inl (nA wi))), (ad 14, .inl (cI, 10, .inl (nA lw))), (ad 17, .inl (cI, 10, .inl (nA mn))), (ad 19, .inl (cI, 300, .inl (nA sf))), (ad 20, .inl (cI, 300, .inl (nA sv))), (ad 21, .inl (cI, 300, .inl (nA so))), (ad 22, .inl (cI, 300, .inl (nA sc))), (ad 23, .inl (cI, 6, .inl (nA wo))), (ad 24, .inl (cI, 6, .inl (oA (coP sf sv so sc wo (30 * k) (mn k) pl)))), (ad 25, .inl (cI, 6, .inl (oA (va_up f i none))))] H := hP
                    have hD : va_D A [(h, .inr (10, oM ad nm mk rd cs)), (ad 11, .inl (cI, 10, .inl (nA wi))), (ad 14, .inl (cI, 10, .inl (nA lw))), (ad 17, .inl (cI, 10, .inl (nA mn))), (ad 19, .inl (cI, 300, .inl (nA sf))), (ad 20, .inl (cI, 300, .inl (nA sv))), (ad 21, .inl (cI, 300, .inl (nA so))), (ad 22, .inl (cI, 300, .inl (nA sc))), (ad 23, .inl (cI, 6, .inl (nA wo))), (ad 24, .inl (cI, 6, .inl (oA (coP sf sv so sc wo (30 * k) (mn k) pl)))), (ad 25, .inl (cI, 6, .inl (oA (va_up f i none))))] := hD
                    refine lv_iinc (v := (nI (i + 1))) (lv' := [(3, .int (nI (i + 1))), (2, .int (nI pl)), (0, .ref h), (1, .int (nI k))]) hx hb d_M_costOf_56 hl (k := 0) rfl (by exact nI_1 _) (by decide) rfl (fun ls hl => ?_)
                    refine lv_goto (tgt := 43) hx hb d_M_costOf_59 (by decide) ?_
                    exact ih43 (i + 1) (va_up f i none) (by omega) (by omega) (up_eqO (h := fun _ => none) hf rfl) _ _ _ hP hD hS (lv_sub hl [0, 1, 2, 3] rfl)
              exact L43 (7) 0 g (by omega) (by omega) (fun _ h => absurd h (Nat.not_lt_zero _)) _ _ _ hP hD hS (lv_sub hl [0, 1, 2, 3] rfl)
        exact L31 (wi k + 1) 0 af (by omega) (by omega) _ _ _ hP hD hS (lv_sub hl [0, 1, 2] rfl)
      · refine lv_aload_n hx hb d_M_costOf_8 rfl (lv_at hl 1 rfl) ?_
        refine r_get C0 hK hP 0 rfl rfl i_M 24 (by decide) wt_687 (fun _ h => h) rfl d_M_costOf_9 ?_
        refine lv_iload_n hx hb d_M_costOf_12 rfl (lv_at hl 0 rfl) ?_
        refine lv_iload_n hx hb d_M_costOf_13 rfl (lv_at hl 0 rfl) ?_
        refine z_ne (tgt := 21) hx hb (by omega) d_M_costOf_14 (by decide) (fun c_14 => ?_) (fun c_14 => ?_)
        · refine lv_iconst (v := (-1)) hx hb d_M_costOf_21 (by decide) ?_
          refine r_astP C0 hK hP hD hS 9 rfl (x := none) (by omega) (by decide) d_M_costOf_22 (fun H locs hP hD hS => ?_)
          have hP : va_P D cls [(h, .inr (10, oM ad nm mk rd cs)), (ad 11, .inl (cI, 10, .inl (nA wi))), (ad 14, .inl (cI, 10, .inl (nA lw))), (ad 17, .inl (cI, 10, .inl (nA mn))), (ad 19, .inl (cI, 300, .inl (nA sf))), (ad 20, .inl (cI, 300, .inl (nA sv))), (ad 21, .inl (cI, 300, .inl (nA so))), (ad 22, .inl (cI, 300, .inl (nA sc))), (ad 23, .inl (cI, 6, .inl (nA wo))), (ad 24, .inl (cI, 6, .inl (oA (va_up f i none)))), (ad 25, .inl (cI, 6, .inl (oA af)))] H := hP
          have hD : va_D A [(h, .inr (10, oM ad nm mk rd cs)), (ad 11, .inl (cI, 10, .inl (nA wi))), (ad 14, .inl (cI, 10, .inl (nA lw))), (ad 17, .inl (cI, 10, .inl (nA mn))), (ad 19, .inl (cI, 300, .inl (nA sf))), (ad 20, .inl (cI, 300, .inl (nA sv))), (ad 21, .inl (cI, 300, .inl (nA so))), (ad 22, .inl (cI, 300, .inl (nA sc))), (ad 23, .inl (cI, 6, .inl (nA wo))), (ad 24, .inl (cI, 6, .inl (oA (va_up f i none)))), (ad 25, .inl (cI, 6, .inl (oA af)))] := hD
          refine lv_iinc (v := (nI (i + 1))) (lv' := [(2, .int (nI (i + 1))), (0, .ref h), (1, .int (nI k))]) hx hb d_M_costOf_23 hl (k := 0) rfl (by exact nI_1 _) (by decide) rfl (fun ls hl => ?_)
          refine lv_goto (tgt := 2) hx hb d_M_costOf_26 (by decide) ?_
          exact ih2 (i + 1) (va_up f i none) (by omega) (by omega) (up_eqO hf (by show _ = (if _ then _ else _); first | rw [if_pos c_14] | rw [if_neg c_14])) _ _ _ hP hD hS (lv_sub hl [0, 1, 2] rfl)
        · refine lv_iconst (v := (nI 0)) hx hb d_M_costOf_17 (by decide) ?_
          refine lv_goto (tgt := 22) hx hb d_M_costOf_18 (by decide) ?_
          refine r_astP C0 hK hP hD hS 9 rfl (x := some 0) (by omega) (by decide) d_M_costOf_22 (fun H locs hP hD hS => ?_)
          have hP : va_P D cls [(h, .inr (10, oM ad nm mk rd cs)), (ad 11, .inl (cI, 10, .inl (nA wi))), (ad 14, .inl (cI, 10, .inl (nA lw))), (ad 17, .inl (cI, 10, .inl (nA mn))), (ad 19, .inl (cI, 300, .inl (nA sf))), (ad 20, .inl (cI, 300, .inl (nA sv))), (ad 21, .inl (cI, 300, .inl (nA so))), (ad 22, .inl (cI, 300, .inl (nA sc))), (ad 23, .inl (cI, 6, .inl (nA wo))), (ad 24, .inl (cI, 6, .inl (oA (va_up f i (some 0))))), (ad 25, .inl (cI, 6, .inl (oA af)))] H := hP
          have hD : va_D A [(h, .inr (10, oM ad nm mk rd cs)), (ad 11, .inl (cI, 10, .inl (nA wi))), (ad 14, .inl (cI, 10, .inl (nA lw))), (ad 17, .inl (cI, 10, .inl (nA mn))), (ad 19, .inl (cI, 300, .inl (nA sf))), (ad 20, .inl (cI, 300, .inl (nA sv))), (ad 21, .inl (cI, 300, .inl (nA so))), (ad 22, .inl (cI, 300, .inl (nA sc))), (ad 23, .inl (cI, 6, .inl (nA wo))), (ad 24, .inl (cI, 6, .inl (oA (va_up f i (some 0))))), (ad 25, .inl (cI, 6, .inl (oA af)))] := hD
          refine lv_iinc (v := (nI (i + 1))) (lv' := [(2, .int (nI (i + 1))), (0, .ref h), (1, .int (nI k))]) hx hb d_M_costOf_23 hl (k := 0) rfl (by exact nI_1 _) (by decide) rfl (fun ls hl => ?_)
          refine lv_goto (tgt := 2) hx hb d_M_costOf_26 (by decide) ?_
          exact ih2 (i + 1) (va_up f i (some 0)) (by omega) (by omega) (up_eqO hf (by show _ = (if _ then _ else _); first | rw [if_pos c_14] | rw [if_neg c_14])) _ _ _ hP hD hS (lv_sub hl [0, 1, 2] rfl)
  exact L2 (7) 0 co (by omega) (by omega) (fun _ h => absurd h (Nat.not_lt_zero _)) _ _ _ hP hD hS (lv_sub hl [0, 1, 2] rfl)
