theorem bI_of_t {b : Bool} (h : b = true) : nI 1 = bI b := by rw [h]; rfl
theorem bI_of_f {b : Bool} (h : b = false) : nI 0 = bI b := by rw [h]; rfl
theorem bI_val {b : Bool} : (bI b = nI 1 ∧ b = true) ∨ (bI b = nI 0 ∧ b = false) := by cases b <;> simp <;> rfl
theorem anyB_of {f : Nat → Bool} {i : Nat} : ∀ {m : Nat}, i < m → f i = true → anyB f m = true
  | 0, h, _ => absurd h (Nat.not_lt_zero _)
  | m + 1, h, g => by
    show (anyB f m || f m) = true
    rcases Nat.lt_or_ge i m with q | q
    · rw [anyB_of q g]; rfl
    · rw [show m = i by omega, g, Bool.or_true]
def tupB (wo : Nat → Nat) (x k : Nat) : Bool := decide (dgt x k = 7) || decide (dgt x k = wo k)
def tupA (tu wo : Nat → Nat) (c wd : Nat) (q : Nat) : Bool := allB (tupB wo (tu (20 * c + q))) wd
set_option maxHeartbeats 4000000 in
set_option maxRecDepth 100000 in
theorem c_M_isTuple (l : Launch) (D : va_G) (cI : ClassId) (sz : Nat) (h : Nat) (ad : Nat → Nat) (nm : Nat) (mk : Nat) (rd : Nat) (cs : Nat) (wi : Nat → Nat) (mn : Nat → Nat) (tu : Nat → Nat) (wo : Nat → Nat) (k : Nat) (hk : k < 10) (hwi : wi k ≤ 6) (hmn : mn k ≤ 20) (htu : ∀ j, tu j < 2147483648) (hwo : ∀ j, wo j < 2147483648) : MetI l y_M_isTuple b_M_isTuple 6 (some .boolean) { frames := 0, cells := 0, slots := 0, locals := 0 } D cI [] sz [(h, .inr (10, oM ad nm mk rd cs)), (ad 11, .inl (cI, 10, .inl (nA wi))), (ad 17, .inl (cI, 10, .inl (nA mn))), (ad 18, .inl (cI, 200, .inl (nA tu))), (ad 23, .inl (cI, 6, .inl (nA wo)))] [.ref h, .int (nI k)] (fun (r : Int32) (u : Unit) => r = (bI (anyB (tupA tu wo k (wi k)) (mn k)))) (fun u : Unit => [(h, .inr (10, oM ad nm mk rd cs)), (ad 11, .inl (cI, 10, .inl (nA wi))), (ad 17, .inl (cI, 10, .inl (nA mn))), (ad 18, .inl (cI, 200, .inl (nA tu))), (ad 23, .inl (cI, 6, .inl (nA wo)))]) := by
  refine enter (by decide) (Nat.le_of_ble_eq_true rfl) ?_
  intro p e s m below meth c A ls C0 hr hlk hnm hK hsz hA hAe hP hD hS hl
  have hx := C0.1
  have hb := C0.2.1
  have hl : lv_has ls 6 [(0, .ref h), (1, .int (nI k))] := hl
  refine lv_iconst (v := (nI 0)) hx hb d_M_isTuple_0 (by decide) ?_
  refine lv_istore_n (lv' := [(2, .int (nI 0)), (0, .ref h), (1, .int (nI k))]) hx hb d_M_isTuple_1 rfl hl (by decide) rfl (fun ls hl => ?_)
  have L2 : ∀ (fuel2 : Nat) (q : Nat), (q ≤ mn k) → (mn k < q + fuel2) → (anyB (tupA tu wo k (wi k)) q = false) → ∀ (H : Heap) (locs : List Loc) (ls : Array Slot), va_P D cls [(h, .inr (10, oM ad nm mk rd cs)), (ad 11, .inl (cI, 10, .inl (nA wi))), (ad 17, .inl (cI, 10, .inl (nA mn))), (ad 18, .inl (cI, 200, .inl (nA tu))), (ad 23, .inl (cI, 6, .inl (nA wo)))] H → va_D A [(h, .inr (10, oM ad nm mk rd cs)), (ad 11, .inl (cI, 10, .inl (nA wi))), (ad 17, .inl (cI, 10, .inl (nA mn))), (ad 18, .inl (cI, 200, .inl (nA tu))), (ad 23, .inl (cI, 6, .inl (nA wo)))] → va_S A s.heap H locs → lv_has ls 6 [(2, .int (nI q)), (0, .ref h), (1, .int (nI k))] → W p l e { frames := 0, cells := 0, slots := 0, locals := 0 } s m ([.ref h, .int (nI k)] : List Value).toArray below meth c H locs 0 0 (MQ below (pstI D [(h, .inr (10, oM ad nm mk rd cs)), (ad 11, .inl (cI, 10, .inl (nA wi))), (ad 17, .inl (cI, 10, .inl (nA mn))), (ad 18, .inl (cI, 200, .inl (nA tu))), (ad 23, .inl (cI, 6, .inl (nA wo)))] sz (fun (r : Int32) (u : Unit) => r = (bI (anyB (tupA tu wo k (wi k)) (mn k)))) (fun u : Unit => [(h, .inr (10, oM ad nm mk rd cs)), (ad 11, .inl (cI, 10, .inl (nA wi))), (ad 17, .inl (cI, 10, .inl (nA mn))), (ad 18, .inl (cI, 200, .inl (nA tu))), (ad 23, .inl (cI, 6, .inl (nA wo)))])) ([.ref h, .int (nI k)] : List Value).toArray s 0 0 A) (F0 m 2 ls []) := by
    intro fuel2
    induction fuel2 with
    | zero => intros; omega
    | succ fuel2 ih2 =>
      intro q hq hfu hno H locs ls hP hD hS hl
      refine lv_iload_n hx hb d_M_isTuple_2 rfl (lv_at hl 0 rfl) ?_
      refine lv_aload_n hx hb d_M_isTuple_3 rfl (lv_at hl 1 rfl) ?_
      refine r_get C0 hK hP 0 rfl rfl i_M 17 (by decide) wt_680 (fun _ h => h) rfl d_M_isTuple_4 ?_
      refine lv_iload_n hx hb d_M_isTuple_7 rfl (lv_at hl 2 rfl) ?_
      refine r_ald C0 hK hP 2 rfl (by omega) (by decide) d_M_isTuple_8 ?_
      refine t_eq (y := (nI (mn k))) rfl ?_
      refine b_ge (tgt := 96) hx hb (by omega) (by omega) d_M_isTuple_9 (by decide) (fun c_9 => ?_) (fun c_9 => ?_)
      · refine lv_iconst (v := (nI 0)) hx hb d_M_isTuple_96 (by decide) ?_
        exact ret_i C0 hr hlk hAe hS () (by have hqe : q = mn k := (by omega); rw [hqe] at hno; exact bI_of_f hno) hP hD rfl (Nat.le_of_ble_eq_true rfl) (Nat.le_of_ble_eq_true rfl) d_M_isTuple_97
      · refine lv_iconst (v := (nI 1)) hx hb d_M_isTuple_12 (by decide) ?_
        refine lv_istore_n (lv' := [(3, .int (nI 1)), (2, .int (nI q)), (0, .ref h), (1, .int (nI k))]) hx hb d_M_isTuple_13 rfl hl (by decide) rfl (fun ls hl => ?_)
        refine lv_iconst (v := (nI 0)) hx hb d_M_isTuple_14 (by decide) ?_
        refine lv_istore (lv' := [(4, .int (nI 0)), (3, .int (nI 1)), (2, .int (nI q)), (0, .ref h), (1, .int (nI k))]) hx hb d_M_isTuple_15 hl (by decide) rfl (fun ls hl => ?_)
        have hl : lv_has ls 6 [(4, .int (nI 0)), (3, .int (bI (allB (tupB wo (tu (20 * k + q))) 0))), (2, .int (nI q)), (0, .ref h), (1, .int (nI k))] := hl
        have L17 : ∀ (fuel17 : Nat) (i : Nat), (i ≤ wi k) → (wi k < i + fuel17) → ∀ (H : Heap) (locs : List Loc) (ls : Array Slot), va_P D cls [(h, .inr (10, oM ad nm mk rd cs)), (ad 11, .inl (cI, 10, .inl (nA wi))), (ad 17, .inl (cI, 10, .inl (nA mn))), (ad 18, .inl (cI, 200, .inl (nA tu))), (ad 23, .inl (cI, 6, .inl (nA wo)))] H → va_D A [(h, .inr (10, oM ad nm mk rd cs)), (ad 11, .inl (cI, 10, .inl (nA wi))), (ad 17, .inl (cI, 10, .inl (nA mn))), (ad 18, .inl (cI, 200, .inl (nA tu))), (ad 23, .inl (cI, 6, .inl (nA wo)))] → va_S A s.heap H locs → lv_has ls 6 [(4, .int (nI i)), (3, .int (bI (allB (tupB wo (tu (20 * k + q))) i))), (2, .int (nI q)), (0, .ref h), (1, .int (nI k))] → W p l e { frames := 0, cells := 0, slots := 0, locals := 0 } s m ([.ref h, .int (nI k)] : List Value).toArray below meth c H locs 0 0 (MQ below (pstI D [(h, .inr (10, oM ad nm mk rd cs)), (ad 11, .inl (cI, 10, .inl (nA wi))), (ad 17, .inl (cI, 10, .inl (nA mn))), (ad 18, .inl (cI, 200, .inl (nA tu))), (ad 23, .inl (cI, 6, .inl (nA wo)))] sz (fun (r : Int32) (u : Unit) => r = (bI (anyB (tupA tu wo k (wi k)) (mn k)))) (fun u : Unit => [(h, .inr (10, oM ad nm mk rd cs)), (ad 11, .inl (cI, 10, .inl (nA wi))), (ad 17, .inl (cI, 10, .inl (nA mn))), (ad 18, .inl (cI, 200, .inl (nA tu))), (ad 23, .inl (cI, 6, .inl (nA wo)))])) ([.ref h, .int (nI k)] : List Value).toArray s 0 0 A) (F0 m 17 ls []) := by
          intro fuel17
          induction fuel17 with
          | zero => intros; omega
          | succ fuel17 ih17 =>
            intro i hi hfu2 H locs ls hP hD hS hl
            refine lv_iload hx hb d_M_isTuple_17 (lv_at hl 0 rfl) ?_
            refine lv_aload_n hx hb d_M_isTuple_19 rfl (lv_at hl 3 rfl) ?_
            refine r_get C0 hK hP 0 rfl rfl i_M 11 (by decide) wt_674 (fun _ h => h) rfl d_M_isTuple_20 ?_
            refine lv_iload_n hx hb d_M_isTuple_23 rfl (lv_at hl 4 rfl) ?_
            refine r_ald C0 hK hP 1 rfl (by omega) (by decide) d_M_isTuple_24 ?_
            refine t_eq (y := (nI (wi k))) rfl ?_
            refine b_ge (tgt := 84) hx hb (by omega) (by omega) d_M_isTuple_25 (by decide) (fun c_25 => ?_) (fun c_25 => ?_)
            · have hie : i = wi k := by omega
              have hl : lv_has ls 6 [(4, .int (nI (wi k))), (3, .int (bI (allB (tupB wo (tu (20 * k + q))) (wi k)))), (2, .int (nI q)), (0, .ref h), (1, .int (nI k))] := by rw [← hie]; exact hl
              refine lv_iload_n hx hb d_M_isTuple_84 rfl (lv_at hl 1 rfl) ?_
              refine y_eq (tgt := 90) hx hb d_M_isTuple_85 (by decide) (fun c_85 => ?_) (fun c_85 => ?_)
              · refine lv_iinc (v := (nI (q + 1))) (lv' := [(2, .int (nI (q + 1))), (4, .int (nI (wi k))), (3, .int (bI (allB (tupB wo (tu (20 * k + q))) (wi k)))), (0, .ref h), (1, .int (nI k))]) hx hb d_M_isTuple_90 hl (k := 2) rfl (by exact nI_1 _) (by decide) rfl (fun ls hl => ?_)
                refine lv_goto (tgt := 2) hx hb d_M_isTuple_93 (by decide) ?_
                exact ih2 (q + 1) (by omega) (by omega) (by show (anyB (tupA tu wo k (wi k)) q || tupA tu wo k (wi k) q) = false; rw [hno]; exact c_85) _ _ _ hP hD hS (lv_sub hl [0, 3, 4] rfl)
              · refine lv_iconst (v := (nI 1)) hx hb d_M_isTuple_88 (by decide) ?_
                exact ret_i C0 hr hlk hAe hS () (bI_of_t (anyB_of (by omega) c_85)) hP hD rfl (Nat.le_of_ble_eq_true rfl) (Nat.le_of_ble_eq_true rfl) d_M_isTuple_89
            · refine lv_aload_n hx hb d_M_isTuple_28 rfl (lv_at hl 3 rfl) ?_
              refine r_get C0 hK hP 0 rfl rfl i_M 18 (by decide) wt_681 (fun _ h => h) rfl d_M_isTuple_29 ?_
              refine lv_bipush (v := (nI 20)) hx hb d_M_isTuple_32 (by decide) ?_
              refine lv_iload_n hx hb d_M_isTuple_34 rfl (lv_at hl 4 rfl) ?_
              refine lv_imul hx hb d_M_isTuple_35 ?_
              refine t_eq (y := (nI (20 * k))) (pk_mul _ _) ?_
              refine lv_iload_n hx hb d_M_isTuple_36 rfl (lv_at hl 2 rfl) ?_
              refine lv_iadd hx hb d_M_isTuple_37 ?_
              refine t_eq (y := (nI ((20 * k) + q))) (nI_add _ _) ?_
              refine r_ald C0 hK hP 3 rfl (by omega) (by decide) d_M_isTuple_38 ?_
              refine t_eq (y := (nI (tu ((20 * k) + q)))) rfl ?_
              have htq := htu (20 * k + q)
              refine lv_iconst (v := (nI 3)) hx hb d_M_isTuple_39 (by decide) ?_
              refine lv_iload hx hb d_M_isTuple_40 (lv_at hl 0 rfl) ?_
              refine lv_imul hx hb d_M_isTuple_42 ?_
              refine t_eq (y := (nI (3 * i))) (pk_mul _ _) ?_
              refine lv_ishr hx hb d_M_isTuple_43 ?_
              refine t_eq (y := (nI ((tu ((20 * k) + q)) / 2 ^ (3 * i)))) (m_shr (by omega) (by omega)) ?_
              refine lv_bipush (v := (nI 7)) hx hb d_M_isTuple_44 (by decide) ?_
              refine lv_iand hx hb d_M_isTuple_46 ?_
              refine t_eq (y := (nI (dgt (tu ((20 * k) + q)) i))) (m_and7 _) ?_
              have hd_46 := dgt_lt (tu ((20 * k) + q)) i
              refine lv_istore (lv' := [(5, .int (nI (dgt (tu ((20 * k) + q)) i))), (4, .int (nI i)), (3, .int (bI (allB (tupB wo (tu (20 * k + q))) i))), (2, .int (nI q)), (0, .ref h), (1, .int (nI k))]) hx hb d_M_isTuple_47 hl (by decide) rfl (fun ls hl => ?_)
              refine lv_iload_n hx hb d_M_isTuple_49 rfl (lv_at hl 2 rfl) ?_
              refine y_eq (tgt := 76) hx hb d_M_isTuple_50 (by decide) (fun c_50 => ?_) (fun c_50 => ?_)
              · refine lv_iconst (v := (nI 0)) hx hb d_M_isTuple_76 (by decide) ?_
                refine t_eq (y := bI (allB (tupB wo (tu (20 * k + q))) (i + 1))) (by first | (refine bI_of_t ?_; simp [allB, tupB, c_50, c_57, c_69]; done) | (refine bI_of_f ?_; simp [allB, tupB, c_50, c_57, c_69]; done) | (refine bI_of_t ?_; simp [allB, tupB, c_50, c_57]; done) | (refine bI_of_f ?_; simp [allB, tupB, c_50, c_57]; done) | (refine bI_of_t ?_; simp [allB, tupB, c_50]; done) | (refine bI_of_f ?_; simp [allB, tupB, c_50]; done) | (refine bI_of_t ?_; simp [allB, tupB]; done) | (refine bI_of_f ?_; simp [allB, tupB]; done)) ?_
                refine lv_istore_n (lv' := [(3, .int (bI (allB (tupB wo (tu (20 * k + q))) (i + 1)))), (5, .int (nI (dgt (tu ((20 * k) + q)) i))), (4, .int (nI i)), (2, .int (nI q)), (0, .ref h), (1, .int (nI k))]) hx hb d_M_isTuple_77 rfl hl (by decide) rfl (fun ls hl => ?_)
                refine lv_iinc (v := (nI (i + 1))) (lv' := [(4, .int (nI (i + 1))), (3, .int (bI (allB (tupB wo (tu (20 * k + q))) (i + 1)))), (5, .int (nI (dgt (tu ((20 * k) + q)) i))), (2, .int (nI q)), (0, .ref h), (1, .int (nI k))]) hx hb d_M_isTuple_78 hl (k := 2) rfl (by exact nI_1 _) (by decide) rfl (fun ls hl => ?_)
                refine lv_goto (tgt := 17) hx hb d_M_isTuple_81 (by decide) ?_
                exact ih17 (i + 1) (by omega) (by omega) _ _ _ hP hD hS (lv_sub hl [0, 1, 3, 4, 5] rfl)
              · refine lv_iload hx hb d_M_isTuple_53 (lv_at hl 0 rfl) ?_
                refine lv_bipush (v := (nI 7)) hx hb d_M_isTuple_55 (by decide) ?_
                refine b_eq (tgt := 72) hx hb (by omega) (by decide) d_M_isTuple_57 (by decide) (fun c_57 => ?_) (fun c_57 => ?_)
                · refine lv_iconst (v := (nI 1)) hx hb d_M_isTuple_72 (by decide) ?_
                  refine lv_goto (tgt := 77) hx hb d_M_isTuple_73 (by decide) ?_
                  refine t_eq (y := bI (allB (tupB wo (tu (20 * k + q))) (i + 1))) (by first | (refine bI_of_t ?_; simp [allB, tupB, c_50, c_57, c_69]; done) | (refine bI_of_f ?_; simp [allB, tupB, c_50, c_57, c_69]; done) | (refine bI_of_t ?_; simp [allB, tupB, c_50, c_57]; done) | (refine bI_of_f ?_; simp [allB, tupB, c_50, c_57]; done) | (refine bI_of_t ?_; simp [allB, tupB, c_50]; done) | (refine bI_of_f ?_; simp [allB, tupB, c_50]; done) | (refine bI_of_t ?_; simp [allB, tupB]; done) | (refine bI_of_f ?_; simp [allB, tupB]; done)) ?_
                  refine lv_istore_n (lv' := [(3, .int (bI (allB (tupB wo (tu (20 * k + q))) (i + 1)))), (5, .int (nI (dgt (tu ((20 * k) + q)) i))), (4, .int (nI i)), (2, .int (nI q)), (0, .ref h), (1, .int (nI k))]) hx hb d_M_isTuple_77 rfl hl (by decide) rfl (fun ls hl => ?_)
                  refine lv_iinc (v := (nI (i + 1))) (lv' := [(4, .int (nI (i + 1))), (3, .int (bI (allB (tupB wo (tu (20 * k + q))) (i + 1)))), (5, .int (nI (dgt (tu ((20 * k) + q)) i))), (2, .int (nI q)), (0, .ref h), (1, .int (nI k))]) hx hb d_M_isTuple_78 hl (k := 2) rfl (by exact nI_1 _) (by decide) rfl (fun ls hl => ?_)
                  refine lv_goto (tgt := 17) hx hb d_M_isTuple_81 (by decide) ?_
                  exact ih17 (i + 1) (by omega) (by omega) _ _ _ hP hD hS (lv_sub hl [0, 1, 3, 4, 5] rfl)
                · refine lv_iload hx hb d_M_isTuple_60 (lv_at hl 0 rfl) ?_
                  refine lv_aload_n hx hb d_M_isTuple_62 rfl (lv_at hl 4 rfl) ?_
                  refine r_get C0 hK hP 0 rfl rfl i_M 23 (by decide) wt_686 (fun _ h => h) rfl d_M_isTuple_63 ?_
                  refine lv_iload hx hb d_M_isTuple_66 (lv_at hl 1 rfl) ?_
                  refine r_ald C0 hK hP 4 rfl (by omega) (by decide) d_M_isTuple_68 ?_
                  refine t_eq (y := (nI (wo i))) rfl ?_
                  have hwq := hwo i
                  refine b_ne (tgt := 76) hx hb (by omega) (by omega) d_M_isTuple_69 (by decide) (fun c_69 => ?_) (fun c_69 => ?_)
                  · refine lv_iconst (v := (nI 0)) hx hb d_M_isTuple_76 (by decide) ?_
                    refine t_eq (y := bI (allB (tupB wo (tu (20 * k + q))) (i + 1))) (by first | (refine bI_of_t ?_; simp [allB, tupB, c_50, c_57, c_69]; done) | (refine bI_of_f ?_; simp [allB, tupB, c_50, c_57, c_69]; done) | (refine bI_of_t ?_; simp [allB, tupB, c_50, c_57]; done) | (refine bI_of_f ?_; simp [allB, tupB, c_50, c_57]; done) | (refine bI_of_t ?_; simp [allB, tupB, c_50]; done) | (refine bI_of_f ?_; simp [allB, tupB, c_50]; done) | (refine bI_of_t ?_; simp [allB, tupB]; done) | (refine bI_of_f ?_; simp [allB, tupB]; done)) ?_
                    refine lv_istore_n (lv' := [(3, .int (bI (allB (tupB wo (tu (20 * k + q))) (i + 1)))), (5, .int (nI (dgt (tu ((20 * k) + q)) i))), (4, .int (nI i)), (2, .int (nI q)), (0, .ref h), (1, .int (nI k))]) hx hb d_M_isTuple_77 rfl hl (by decide) rfl (fun ls hl => ?_)
                    refine lv_iinc (v := (nI (i + 1))) (lv' := [(4, .int (nI (i + 1))), (3, .int (bI (allB (tupB wo (tu (20 * k + q))) (i + 1)))), (5, .int (nI (dgt (tu ((20 * k) + q)) i))), (2, .int (nI q)), (0, .ref h), (1, .int (nI k))]) hx hb d_M_isTuple_78 hl (k := 2) rfl (by exact nI_1 _) (by decide) rfl (fun ls hl => ?_)
                    refine lv_goto (tgt := 17) hx hb d_M_isTuple_81 (by decide) ?_
                    exact ih17 (i + 1) (by omega) (by omega) _ _ _ hP hD hS (lv_sub hl [0, 1, 3, 4, 5] rfl)
                  · refine lv_iconst (v := (nI 1)) hx hb d_M_isTuple_72 (by decide) ?_
                    refine lv_goto (tgt := 77) hx hb d_M_isTuple_73 (by decide) ?_
                    refine t_eq (y := bI (allB (tupB wo (tu (20 * k + q))) (i + 1))) (by first | (refine bI_of_t ?_; simp [allB, tupB, c_50, c_57, c_69]; done) | (refine bI_of_f ?_; simp [allB, tupB, c_50, c_57, c_69]; done) | (refine bI_of_t ?_; simp [allB, tupB, c_50, c_57]; done) | (refine bI_of_f ?_; simp [allB, tupB, c_50, c_57]; done) | (refine bI_of_t ?_; simp [allB, tupB, c_50]; done) | (refine bI_of_f ?_; simp [allB, tupB, c_50]; done) | (refine bI_of_t ?_; simp [allB, tupB]; done) | (refine bI_of_f ?_; simp [allB, tupB]; done)) ?_
                    refine lv_istore_n (lv' := [(3, .int (bI (allB (tupB wo (tu (20 * k + q))) (i + 1)))), (5, .int (nI (dgt (tu ((20 * k) + q)) i))), (4, .int (nI i)), (2, .int (nI q)), (0, .ref h), (1, .int (nI k))]) hx hb d_M_isTuple_77 rfl hl (by decide) rfl (fun ls hl => ?_)
                    refine lv_iinc (v := (nI (i + 1))) (lv' := [(4, .int (nI (i + 1))), (3, .int (bI (allB (tupB wo (tu (20 * k + q))) (i + 1)))), (5, .int (nI (dgt (tu ((20 * k) + q)) i))), (2, .int (nI q)), (0, .ref h), (1, .int (nI k))]) hx hb d_M_isTuple_78 hl (k := 2) rfl (by exact nI_1 _) (by decide) rfl (fun ls hl => ?_)
                    refine lv_goto (tgt := 17) hx hb d_M_isTuple_81 (by decide) ?_
                    exact ih17 (i + 1) (by omega) (by omega) _ _ _ hP hD hS (lv_sub hl [0, 1, 3, 4, 5] rfl)
        exact L17 (wi k + 1) 0 (by omega) (by omega) _ _ _ hP hD hS (lv_sub hl [0, 1, 2, 3, 4] rfl)
  exact L2 (mn k + 1) 0 (by omega) (by omega) rfl _ _ _ hP hD hS (lv_sub hl [0, 1, 2] rfl)
def ordB (wo : Nat → Nat) (hf a : Nat) : Nat → Nat → Bool
  | 0, _ => decide (a = 0)
  | f + 1, i => if wo i = wo (hf + i) then ordB wo hf a f (i + 1) else decide (wo i < wo (hf + i))
theorem ordB_e {wo : Nat → Nat} {hf a f i : Nat} (h : wo i = wo (hf + i)) : ordB wo hf a (f + 1) i = ordB wo hf a f (i + 1) := by
  show (if _ then _ else _) = _
  rw [if_pos h]
theorem ordB_n {wo : Nat → Nat} {hf a f i : Nat} (h : ¬ wo i = wo (hf + i)) : ordB wo hf a (f + 1) i = decide (wo i < wo (hf + i)) := by
  show (if _ then _ else _) = _
  rw [if_neg h]
theorem m_div2 {a : Nat} (h : a < 2147483648) : nI a / nI 2 = nI (a / 2) := pk_div h (by decide) (by decide)
set_option maxHeartbeats 4000000 in
set_option maxRecDepth 100000 in
theorem c_M_isInOrder (l : Launch) (D : va_G) (cI : ClassId) (sz : Nat) (h : Nat) (ad : Nat → Nat) (nm : Nat) (mk : Nat) (rd : Nat) (cs : Nat) (wi : Nat → Nat) (lw : Nat → Nat) (wo : Nat → Nat) (k : Nat) (hk : k < 10) (hwi : wi k ≤ 6) (hlw : lw k < 2147483648) (hwo : ∀ j, wo j < 2147483648) : MetI l y_M_isInOrder b_M_isInOrder 4 (some .boolean) { frames := 0, cells := 0, slots := 0, locals := 0 } D cI [] sz [(h, .inr (10, oM ad nm mk rd cs)), (ad 11, .inl (cI, 10, .inl (nA wi))), (ad 14, .inl (cI, 10, .inl (nA lw))), (ad 23, .inl (cI, 6, .inl (nA wo)))] [.ref h, .int (nI k)] (fun (r : Int32) (u : Unit) => r = (bI (ordB wo (wi k / 2) (lw k) (wi k / 2) 0))) (fun u : Unit => [(h, .inr (10, oM ad nm mk rd cs)), (ad 11, .inl (cI, 10, .inl (nA wi))), (ad 14, .inl (cI, 10, .inl (nA lw))), (ad 23, .inl (cI, 6, .inl (nA wo)))]) := by
  refine enter (by decide) (Nat.le_of_ble_eq_true rfl) ?_
  intro p e s m below meth c A ls C0 hr hlk hnm hK hsz hA hAe hP hD hS hl
  have hx := C0.1
  have hb := C0.2.1
  have hl : lv_has ls 4 [(0, .ref h), (1, .int (nI k))] := hl
  refine lv_aload_n hx hb d_M_isInOrder_0 rfl (lv_at hl 0 rfl) ?_
  refine r_get C0 hK hP 0 rfl rfl i_M 11 (by decide) wt_674 (fun _ h => h) rfl d_M_isInOrder_1 ?_
  refine lv_iload_n hx hb d_M_isInOrder_4 rfl (lv_at hl 1 rfl) ?_
  refine r_ald C0 hK hP 1 rfl (by omega) (by decide) d_M_isInOrder_5 ?_
  refine t_eq (y := (nI (wi k))) rfl ?_
  refine lv_iconst (v := (nI 2)) hx hb d_M_isInOrder_6 (by decide) ?_
  refine lv_idiv hx hb d_M_isInOrder_7 (by decide) ?_
  refine t_eq (y := (nI ((wi k) / 2))) (m_div2 (by omega)) ?_
  refine lv_istore_n (lv' := [(2, .int (nI ((wi k) / 2))), (0, .ref h), (1, .int (nI k))]) hx hb d_M_isInOrder_8 rfl hl (by decide) rfl (fun ls hl => ?_)
  refine lv_iconst (v := (nI 0)) hx hb d_M_isInOrder_9 (by decide) ?_
  refine lv_istore_n (lv' := [(3, .int (nI 0)), (2, .int (nI ((wi k) / 2))), (0, .ref h), (1, .int (nI k))]) hx hb d_M_isInOrder_10 rfl hl (by decide) rfl (fun ls hl => ?_)
  have L11 : ∀ (fuel11 : Nat) (i : Nat), (i ≤ wi k / 2) → (wi k / 2 < i + fuel11) → (ordB wo (wi k / 2) (lw k) (wi k / 2) 0 = ordB wo (wi k / 2) (lw k) (wi k / 2 - i) i) → ∀ (H : Heap) (locs : List Loc) (ls : Array Slot), va_P D cls [(h, .inr (10, oM ad nm mk rd cs)), (ad 11, .inl (cI, 10, .inl (nA wi))), (ad 14, .inl (cI, 10, .inl (nA lw))), (ad 23, .inl (cI, 6, .inl (nA wo)))] H → va_D A [(h, .inr (10, oM ad nm mk rd cs)), (ad 11, .inl (cI, 10, .inl (nA wi))), (ad 14, .inl (cI, 10, .inl (nA lw))), (ad 23, .inl (cI, 6, .inl (nA wo)))] → va_S A s.heap H locs → lv_has ls 4 [(3, .int (nI i)), (2, .int (nI (wi k / 2))), (0, .ref h), (1, .int (nI k))] → W p l e { frames := 0, cells := 0, slots := 0, locals := 0 } s m ([.ref h, .int (nI k)] : List Value).toArray below meth c H locs 0 0 (MQ below (pstI D [(h, .inr (10, oM ad nm mk rd cs)), (ad 11, .inl (cI, 10, .inl (nA wi))), (ad 14, .inl (cI, 10, .inl (nA lw))), (ad 23, .inl (cI, 6, .inl (nA wo)))] sz (fun (r : Int32) (u : Unit) => r = (bI (ordB wo (wi k / 2) (lw k) (wi k / 2) 0))) (fun u : Unit => [(h, .inr (10, oM ad nm mk rd cs)), (ad 11, .inl (cI, 10, .inl (nA wi))), (ad 14, .inl (cI, 10, .inl (nA lw))), (ad 23, .inl (cI, 6, .inl (nA wo)))])) ([.ref h, .int (nI k)] : List Value).toArray s 0 0 A) (F0 m 11 ls []) := by
    intro fuel11
    induction fuel11 with
    | zero => intros; omega
    | succ fuel11 ih11 =>
      intro i hi hfu hob H locs ls hP hD hS hl
      refine lv_iload_n hx hb d_M_isInOrder_11 rfl (lv_at hl 0 rfl) ?_
      refine lv_iload_n hx hb d_M_isInOrder_12 rfl (lv_at hl 1 rfl) ?_
      refine b_ge (tgt := 62) hx hb (by omega) (by omega) d_M_isInOrder_13 (by decide) (fun c_13 => ?_) (fun c_13 => ?_)
      · rw [show wi k / 2 - i = 0 by omega] at hob
        refine lv_aload_n hx hb d_M_isInOrder_62 rfl (lv_at hl 2 rfl) ?_
        refine r_get C0 hK hP 0 rfl rfl i_M 14 (by decide) wt_677 (fun _ h => h) rfl d_M_isInOrder_63 ?_
        refine lv_iload_n hx hb d_M_isInOrder_66 rfl (lv_at hl 3 rfl) ?_
        refine r_ald C0 hK hP 2 rfl (by omega) (by decide) d_M_isInOrder_67 ?_
        refine t_eq (y := (nI (lw k))) rfl ?_
        refine z_ne (tgt := 75) hx hb (by omega) d_M_isInOrder_68 (by decide) (fun c_68 => ?_) (fun c_68 => ?_)
        · refine lv_iconst (v := (nI 0)) hx hb d_M_isInOrder_75 (by decide) ?_
          exact ret_i C0 hr hlk hAe hS () (by rw [hob]; first | exact bI_of_t (decide_eq_true c_68) | exact bI_of_f (decide_eq_false c_68)) hP hD rfl (Nat.le_of_ble_eq_true rfl) (Nat.le_of_ble_eq_true rfl) d_M_isInOrder_76
        · refine lv_iconst (v := (nI 1)) hx hb d_M_isInOrder_71 (by decide) ?_
          refine lv_goto (tgt := 76) hx hb d_M_isInOrder_72 (by decide) ?_
          exact ret_i C0 hr hlk hAe hS () (by rw [hob]; first | exact bI_of_t (decide_eq_true c_68) | exact bI_of_f (decide_eq_false c_68)) hP hD rfl (Nat.le_of_ble_eq_true rfl) (Nat.le_of_ble_eq_true rfl) d_M_isInOrder_76
      · have hsu : wi k / 2 - i = (wi k / 2 - (i + 1)) + 1 := by omega
        have hw1 := hwo i
        have hw2 := hwo (wi k / 2 + i)
        refine lv_aload_n hx hb d_M_isInOrder_16 rfl (lv_at hl 2 rfl) ?_
        refine r_get C0 hK hP 0 rfl rfl i_M 23 (by decide) wt_686 (fun _ h => h) rfl d_M_isInOrder_17 ?_
        refine lv_iload_n hx hb d_M_isInOrder_20 rfl (lv_at hl 0 rfl) ?_
        refine r_ald C0 hK hP 3 rfl (by omega) (by decide) d_M_isInOrder_21 ?_
        refine t_eq (y := (nI (wo i))) rfl ?_
        refine lv_aload_n hx hb d_M_isInOrder_22 rfl (lv_at hl 2 rfl) ?_
        refine r_get C0 hK hP 0 rfl rfl i_M 23 (by decide) wt_686 (fun _ h => h) rfl d_M_isInOrder_23 ?_
        refine lv_iload_n hx hb d_M_isInOrder_26 rfl (lv_at hl 1 rfl) ?_
        refine lv_iload_n hx hb d_M_isInOrder_27 rfl (lv_at hl 0 rfl) ?_
        refine lv_iadd hx hb d_M_isInOrder_28 ?_
        refine t_eq (y := (nI ((wi k / 2) + i))) (nI_add _ _) ?_
        refine r_ald C0 hK hP 3 rfl (by omega) (by decide) d_M_isInOrder_29 ?_
        refine t_eq (y := (nI (wo ((wi k / 2) + i)))) rfl ?_
        refine b_eq (tgt := 56) hx hb (by omega) (by omega) d_M_isInOrder_30 (by decide) (fun c_30 => ?_) (fun c_30 => ?_)
        · refine lv_iinc (v := (nI (i + 1))) (lv' := [(3, .int (nI (i + 1))), (2, .int (nI (wi k / 2))), (0, .ref h), (1, .int (nI k))]) hx hb d_M_isInOrder_56 hl (k := 0) rfl (by exact nI_1 _) (by decide) rfl (fun ls hl => ?_)
          refine lv_goto (tgt := 11) hx hb d_M_isInOrder_59 (by decide) ?_
          exact ih11 (i + 1) (by omega) (by omega) (by rw [hob, hsu, ordB_e c_30]) _ _ _ hP hD hS (lv_sub hl [0, 1, 2, 3] rfl)
        · refine lv_aload_n hx hb d_M_isInOrder_33 rfl (lv_at hl 2 rfl) ?_
          refine r_get C0 hK hP 0 rfl rfl i_M 23 (by decide) wt_686 (fun _ h => h) rfl d_M_isInOrder_34 ?_
          refine lv_iload_n hx hb d_M_isInOrder_37 rfl (lv_at hl 0 rfl) ?_
          refine r_ald C0 hK hP 3 rfl (by omega) (by decide) d_M_isInOrder_38 ?_
          refine t_eq (y := (nI (wo i))) rfl ?_
          refine lv_aload_n hx hb d_M_isInOrder_39 rfl (lv_at hl 2 rfl) ?_
          refine r_get C0 hK hP 0 rfl rfl i_M 23 (by decide) wt_686 (fun _ h => h) rfl d_M_isInOrder_40 ?_
          refine lv_iload_n hx hb d_M_isInOrder_43 rfl (lv_at hl 1 rfl) ?_
          refine lv_iload_n hx hb d_M_isInOrder_44 rfl (lv_at hl 0 rfl) ?_
          refine lv_iadd hx hb d_M_isInOrder_45 ?_
          refine t_eq (y := (nI ((wi k / 2) + i))) (nI_add _ _) ?_
          refine r_ald C0 hK hP 3 rfl (by omega) (by decide) d_M_isInOrder_46 ?_
          refine t_eq (y := (nI (wo ((wi k / 2) + i)))) rfl ?_
          refine b_ge (tgt := 54) hx hb (by omega) (by omega) d_M_isInOrder_47 (by decide) (fun c_47 => ?_) (fun c_47 => ?_)
          · refine lv_iconst (v := (nI 0)) hx hb d_M_isInOrder_54 (by decide) ?_
            rw [hsu, ordB_n c_30] at hob
            exact ret_i C0 hr hlk hAe hS () (by rw [hob]; first | exact bI_of_t (decide_eq_true c_47) | exact bI_of_f (decide_eq_false (Nat.not_lt.mpr c_47))) hP hD rfl (Nat.le_of_ble_eq_true rfl) (Nat.le_of_ble_eq_true rfl) d_M_isInOrder_55
          · refine lv_iconst (v := (nI 1)) hx hb d_M_isInOrder_50 (by decide) ?_
            refine lv_goto (tgt := 55) hx hb d_M_isInOrder_51 (by decide) ?_
            rw [hsu, ordB_n c_30] at hob
            exact ret_i C0 hr hlk hAe hS () (by rw [hob]; first | exact bI_of_t (decide_eq_true c_47) | exact bI_of_f (decide_eq_false (Nat.not_lt.mpr c_47))) hP hD rfl (Nat.le_of_ble_eq_true rfl) (Nat.le_of_ble_eq_true rfl) d_M_isInOrder_55
  exact L11 (wi k / 2 + 1) 0 (by omega) (by omega) rfl _ _ _ hP hD hS (lv_sub hl [0, 1, 2, 3] rfl)
def oA (g : Nat → Option Nat) : Nat → Int32 := fun i => oI (g i)
theorem upd_oA (g : Nat → Option Nat) (k : Nat) (x : Option Nat) : upd (oA g) k (oI x) = oA (va_up g k x) := by
  funext j
  unfold upd oA va_up
  split <;> rfl
section NR5
variable {p : Program} {l : Launch} {e : Env} {R : Room} {s : State} {m : MethodId} {args : Array Value} {below : List Frame} {meth : Method} {c : Code} {H : Heap} {locs : List Loc} {cells slots : Nat} {Q : State → Prop}
variable {cc : ByteArray} {pc nL : Nat} {ls : Array Slot} {rest : List Value} {own : String} {D : va_G} {cI : ClassId} {tys : List (ClassId × FieldType)} {ws : va_W} {A : Nat → Prop} {a : Nat}
theorem r_astP (C0 : CallFix p m c cc nL s args gt own) (hK : KK D cI tys s) (hP : va_P D cls ws H) (hD : va_D A ws) (hS : va_S A s.heap H locs) (q0 : Nat) {n i : Nat} {x : Option Nat} {g : Nat → Option Nat} (ha : ws[q0]? = some (a, .inl (cI, n, .inl (oA g)))) (hi : i < n) (hn : n < 2147483648) (hd : decode cc pc = .ok (.iastore, 1))
    (kk : ∀ (H1 : Heap) (locs1 : List Loc), va_P D cls (ws.set q0 (a, .inl (cI, n, .inl (oA (va_up g i x))))) H1 → va_D A (ws.set q0 (a, .inl (cI, n, .inl (oA (va_up g i x))))) → va_S A s.heap H1 locs1 → W p l e R s m args below meth c H1 locs1 cells slots Q (F0 m (pc + 1) ls rest)) : W p l e R s m args below meth c H locs cells slots Q (F0 m pc ls (.int (oI x) :: .int (nI i) :: .ref a :: rest)) :=
  r_ast C0 hK hP hD hS q0 ha hi hn hd (fun H1 l1 h1 h2 h3 => by rw [upd_oA] at h1 h2; exact kk H1 l1 h1 h2 h3)
theorem o_eq (hx : p.tables.exec = Jvm.exec) (hb : c.code = cc) {x : Option Nat} (h1 : ∀ y, x = some y → y < 2147483648) {off : Int} {tgt : Nat} (hd : decode cc pc = .ok (.if_icmp .eq off, 3)) (ht : (pc : Int) + off = (tgt : Int)) (kt : x = none → W p l e R s m args below meth c H locs cells slots Q (F0 m tgt ls rest)) (kf : ∀ y, x = some y → W p l e R s m args below meth c H locs cells slots Q (F0 m (pc + 3) ls rest)) : W p l e R s m args below meth c H locs cells slots Q (F0 m pc ls (.int (-1) :: .int (oI x) :: rest)) := by
  cases x with
  | none => exact lv_icmp_eq hx hb hd ht (fun _ => kt rfl) (fun h => absurd rfl h)
  | some y => exact lv_icmp_eq hx hb hd ht (fun h => absurd h (m1_ne (h1 y rfl))) (fun _ => kf y rfl)
theorem o_ne (hx : p.tables.exec = Jvm.exec) (hb : c.code = cc) {x : Option Nat} (h1 : ∀ y, x = some y → y < 2147483648) {off : Int} {tgt : Nat} (hd : decode cc pc = .ok (.if_icmp .ne off, 3)) (ht : (pc : Int) + off = (tgt : Int)) (kt : ∀ y, x = some y → W p l e R s m args below meth c H locs cells slots Q (F0 m tgt ls rest)) (kf : x = none → W p l e R s m args below meth c H locs cells slots Q (F0 m (pc + 3) ls rest)) : W p l e R s m args below meth c H locs cells slots Q (F0 m pc ls (.int (-1) :: .int (oI x) :: rest)) := by
  cases x with
  | none => exact lv_icmp_ne hx hb hd ht (fun h => absurd rfl h) (fun _ => kf rfl)
  | some y => exact lv_icmp_ne hx hb hd ht (fun _ => kt y rfl) (fun h => absurd h (m1_ne (h1 y rfl)))
end NR5
/-- the lesser of a new cost and what was there -/
def omn (all : Nat) : Option Nat → Nat
  | none => all
  | some z => if all < z then all else z
def csS (sf sv st sc : Nat → Nat) (b x : Nat) (co : Nat → Option Nat) (i : Nat) (af : Nat → Option Nat) : Nat → Option Nat := if sv (b + i) = x then (match co (sf (b + i)) with
  | none => af
  | some y => va_up af (st (b + i)) (some (omn (y + sc (b + i)) (af (st (b + i)))))) else af
def csF (sf sv st sc : Nat → Nat) (b x : Nat) (co : Nat → Option Nat) : Nat → (Nat → Option Nat) := itr (csS sf sv st sc b x co) (fun _ => none)
def coP (sf sv st sc wo : Nat → Nat) (b m : Nat) : Nat → (Nat → Option Nat)
  | 0 => fun q => if q = 0 then some 0 else none
  | k + 1 => csF sf sv st sc b (wo k) (coP sf sv st sc wo b m k) m
def bsS (en : Nat) (co : Nat → Option Nat) (q : Nat) (best : Option Nat) : Option Nat := if en / 2 ^ q % 2 = 1 then (match co q with
  | none => best
  | some y => some (omn y best)) else best
def bsF (en : Nat) (co : Nat → Option Nat) : Nat → Option Nat := itr (bsS en co) none
def leO (B : Nat) (co : Nat → Option Nat) : Prop := ∀ q y, co q = some y → y ≤ B
theorem omn_le {x B : Nat} {o : Option Nat} (hx : x ≤ B) : omn x o ≤ B := by
  unfold omn
  cases o with
  | none => exact hx
  | some z => show (if _ then _ else _) ≤ _; split <;> omega
theorem leO_up {B k x : Nat} {co : Nat → Option Nat} (h : leO B co) (hx : x ≤ B) : leO B (va_up co k (some x)) := fun q y e => by
  unfold va_up at e
  split at e
  · cases e; exact hx
  · exact h q y e
theorem csF_le {sf sv st sc : Nat → Nat} {b x B : Nat} {co : Nat → Option Nat} (hc : leO B co) (hs : ∀ j, sc j ≤ 100) : ∀ i, leO (B + 100) (csF sf sv st sc b x co i)
  | 0 => fun q y e => by cases e
  | i + 1 => by
    have h := csF_le (sf := sf) (sv := sv) (st := st) (b := b) (x := x) hc hs i
    show leO _ (csS sf sv st sc b x co i (csF sf sv st sc b x co i))
    unfold csS
    split
    · split
      · exact h
      · next y hy => exact leO_up h (omn_le (by have := hc _ _ hy; have := hs (b + i); omega))
    · exact h
theorem coP_le {sf sv st sc wo : Nat → Nat} {b m : Nat} (hs : ∀ j, sc j ≤ 100) : ∀ k, leO (100 * k) (coP sf sv st sc wo b m k)
  | 0 => fun q y e => by
    have e : (if q = 0 then some 0 else none) = some y := e
    split at e
    · cases e; exact Nat.le_refl _
    · cases e
  | k + 1 => csF_le (coP_le hs k) hs m
theorem csS_n {sf sv st sc : Nat → Nat} {b x i : Nat} {co af : Nat → Option Nat} (h : ¬ sv (b + i) = x) : csS sf sv st sc b x co i af = af := by
  unfold csS
  rw [if_neg h]
theorem csS_0 {sf sv st sc : Nat → Nat} {b x i : Nat} {co af : Nat → Option Nat} (h : co (sf (b + i)) = none) : csS sf sv st sc b x co i af = af := by
  unfold csS
  rw [h]
  split <;> rfl
theorem csS_s {sf sv st sc : Nat → Nat} {b x i y : Nat} {co af : Nat → Option Nat} (h : sv (b + i) = x) (g : co (sf (b + i)) = some y) : csS sf sv st sc b x co i af = va_up af (st (b + i)) (some (omn (y + sc (b + i)) (af (st (b + i))))) := by
  unfold csS
  rw [if_pos h, g]
theorem up_idO {g : Nat → Option Nat} {k : Nat} {x : Option Nat} (h : x = g k) : va_up g k x = g := by
  funext j
  unfold va_up
  split
  · next q => rw [q, h]
  · rfl
