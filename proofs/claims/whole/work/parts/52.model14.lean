set_option maxHeartbeats 4000000 in
set_option maxRecDepth 100000 in
theorem c_M_solve (l : Launch) (D : va_G) (cI : ClassId) (sz : Nat) (h : Nat) (ad : Nat → Nat) (nm : Nat) (mk : Nat) (rd : Nat) (cs : Nat) (dm : Nat → Nat) (ki : Nat → Nat) (wi : Nat → Nat) (rc : Nat → Nat) (ro : Nat → Nat) (lw : Nat → Nat) (hg : Nat → Nat) (wh : Nat → Nat) (mn : Nat → Nat) (tu : Nat → Nat) (sf : Nat → Nat) (sv : Nat → Nat) (so : Nat → Nat) (sc : Nat → Nat) (wo : Nat → Nat) (co : Nat → Option Nat) (af : Nat → Option Nat) (ch : Nat → Nat) (x0 : Nat) (hcs : cs ≤ 10) (hok : okM cs dm ki wi ro lw hg wh mn tu sf sv so sc) (hwo : ∀ j, wo j < 6) (hnm : nm ≤ 6) (hdm : ∀ j, dm j < 64) (hx0 : x0 ≤ nm) (hch : ∀ j, j < x0 → ch j < 6) (hcx : x0 < nm → ch x0 ≤ 6) : MetI l y_M_solve b_M_solve 3 (some .boolean) { frames := 3, cells := 0, slots := 0, locals := 75 } D cI [] sz [(h, .inr (10, oM ad nm mk rd cs)), (ad 1, .inl (cI, 6, .inl (nA dm))), (ad 10, .inl (cI, 10, .inl (nA ki))), (ad 11, .inl (cI, 10, .inl (nA wi))), (ad 12, .inl (cI, 10, .inl (nA rc))), (ad 13, .inl (cI, 60, .inl (nA ro))), (ad 14, .inl (cI, 10, .inl (nA lw))), (ad 15, .inl (cI, 10, .inl (nA hg))), (ad 16, .inl (cI, 10, .inl (nA wh))), (ad 17, .inl (cI, 10, .inl (nA mn))), (ad 18, .inl (cI, 200, .inl (nA tu))), (ad 19, .inl (cI, 300, .inl (nA sf))), (ad 20, .inl (cI, 300, .inl (nA sv))), (ad 21, .inl (cI, 300, .inl (nA so))), (ad 22, .inl (cI, 300, .inl (nA sc))), (ad 23, .inl (cI, 6, .inl (nA wo))), (ad 24, .inl (cI, 6, .inl (oA co))), (ad 25, .inl (cI, 6, .inl (oA af))), (ad 27, .inl (cI, 6, .inl (nA ch)))] [.ref h, .int (nI x0)] (fun (r : Int32) (u : (Nat → Nat) × (Nat → Option Nat) × (Nat → Option Nat) × (Nat → Nat)) => ((cuR (okX ki wi ro lw hg wh mn tu sf sv so sc dm cs) nm x0 ch = [] ∧ r = bI false) ∨ (cuR (okX ki wi ro lw hg wh mn tu sf sv so sc dm cs) nm x0 ch = u.2.2.2 :: upL (okX ki wi ro lw hg wh mn tu sf sv so sc dm cs) nm nm u.2.2.2 ∧ r = bI true ∧ ∀ j, j < nm → u.2.2.2 j < 6)) ∧ ∀ j, u.1 j < 6) (fun u : (Nat → Nat) × (Nat → Option Nat) × (Nat → Option Nat) × (Nat → Nat) => [(h, .inr (10, oM ad nm mk rd cs)), (ad 1, .inl (cI, 6, .inl (nA dm))), (ad 10, .inl (cI, 10, .inl (nA ki))), (ad 11, .inl (cI, 10, .inl (nA wi))), (ad 12, .inl (cI, 10, .inl (nA rc))), (ad 13, .inl (cI, 60, .inl (nA ro))), (ad 14, .inl (cI, 10, .inl (nA lw))), (ad 15, .inl (cI, 10, .inl (nA hg))), (ad 16, .inl (cI, 10, .inl (nA wh))), (ad 17, .inl (cI, 10, .inl (nA mn))), (ad 18, .inl (cI, 200, .inl (nA tu))), (ad 19, .inl (cI, 300, .inl (nA sf))), (ad 20, .inl (cI, 300, .inl (nA sv))), (ad 21, .inl (cI, 300, .inl (nA so))), (ad 22, .inl (cI, 300, .inl (nA sc))), (ad 23, .inl (cI, 6, .inl (nA u.1))), (ad 24, .inl (cI, 6, .inl (oA u.2.1))), (ad 25, .inl (cI, 6, .inl (oA u.2.2.1))), (ad 27, .inl (cI, 6, .inl (nA u.2.2.2)))]) := by
  refine enter (by decide) (Nat.le_of_ble_eq_true rfl) ?_
  intro p e s m below meth c A ls C0 hr hlk hnm hK hsz hA hAe hP hD hS hl
  have hx := C0.1
  have hb := C0.2.1
  have hl : lv_has ls 3 [(0, .ref h), (1, .int (nI x0))] := hl
  have hdep := okX_dep (ro := ro) (lw := lw) (hg := hg) (wh := wh) (mn := mn) (tu := tu) (sf := sf) (sv := sv) (so := so) (sc := sc) (dm := dm) (fun k hk => (hok.1 k hk).2.2.1)
  refine lv_iload_n hx hb d_M_solve_0 rfl (lv_at hl 1 rfl) ?_
  refine lv_istore_n (lv' := [(2, .int (nI x0)), (0, .ref h), (1, .int (nI x0))]) hx hb d_M_solve_1 rfl hl (by decide) rfl (fun ls hl => ?_)
  have L2 : ∀ (fuel2 : Nat) (x : Nat) (g : Nat → Nat) (w : Nat → Nat) (co1 : Nat → Option Nat) (af1 : Nat → Option Nat), (x ≤ nm) → (muS nm x g < fuel2) → (cuR (okX ki wi ro lw hg wh mn tu sf sv so sc dm cs) nm x g = cuR (okX ki wi ro lw hg wh mn tu sf sv so sc dm cs) nm x0 ch) → (∀ j, j < x → g j < 6) → (x < nm → g x ≤ 6) → (∀ j, w j < 6) → ∀ (H : Heap) (locs : List Loc) (ls : Array Slot), va_P D cls [(h, .inr (10, oM ad nm mk rd cs)), (ad 1, .inl (cI, 6, .inl (nA dm))), (ad 10, .inl (cI, 10, .inl (nA ki))), (ad 11, .inl (cI, 10, .inl (nA wi))), (ad 12, .inl (cI, 10, .inl (nA rc))), (ad 13, .inl (cI, 60, .inl (nA ro))), (ad 14, .inl (cI, 10, .inl (nA lw))), (ad 15, .inl (cI, 10, .inl (nA hg))), (ad 16, .inl (cI, 10, .inl (nA wh))), (ad 17, .inl (cI, 10, .inl (nA mn))), (ad 18, .inl (cI, 200, .inl (nA tu))), (ad 19, .inl (cI, 300, .inl (nA sf))), (ad 20, .inl (cI, 300, .inl (nA sv))), (ad 21, .inl (cI, 300, .inl (nA so))), (ad 22, .inl (cI, 300, .inl (nA sc))), (ad 23, .inl (cI, 6, .inl (nA w))), (ad 24, .inl (cI, 6, .inl (oA co1))), (ad 25, .inl (cI, 6, .inl (oA af1))), (ad 27, .inl (cI, 6, .inl (nA g)))] H → va_D A [(h, .inr (10, oM ad nm mk rd cs)), (ad 1, .inl (cI, 6, .inl (nA dm))), (ad 10, .inl (cI, 10, .inl (nA ki))), (ad 11, .inl (cI, 10, .inl (nA wi))), (ad 12, .inl (cI, 10, .inl (nA rc))), (ad 13, .inl (cI, 60, .inl (nA ro))), (ad 14, .inl (cI, 10, .inl (nA lw))), (ad 15, .inl (cI, 10, .inl (nA hg))), (ad 16, .inl (cI, 10, .inl (nA wh))), (ad 17, .inl (cI, 10, .inl (nA mn))), (ad 18, .inl (cI, 200, .inl (nA tu))), (ad 19, .inl (cI, 300, .inl (nA sf))), (ad 20, .inl (cI, 300, .inl (nA sv))), (ad 21, .inl (cI, 300, .inl (nA so))), (ad 22, .inl (cI, 300, .inl (nA sc))), (ad 23, .inl (cI, 6, .inl (nA w))), (ad 24, .inl (cI, 6, .inl (oA co1))), (ad 25, .inl (cI, 6, .inl (oA af1))), (ad 27, .inl (cI, 6, .inl (nA g)))] → va_S A s.heap H locs → lv_has ls 3 [(2, .int (nI x)), (0, .ref h), (1, .int (nI x0))] → W p l e { frames := 3, cells := 0, slots := 0, locals := 75 } s m ([.ref h, .int (nI x0)] : List Value).toArray below meth c H locs 0 0 (MQ below (pstI D [(h, .inr (10, oM ad nm mk rd cs)), (ad 1, .inl (cI, 6, .inl (nA dm))), (ad 10, .inl (cI, 10, .inl (nA ki))), (ad 11, .inl (cI, 10, .inl (nA wi))), (ad 12, .inl (cI, 10, .inl (nA rc))), (ad 13, .inl (cI, 60, .inl (nA ro))), (ad 14, .inl (cI, 10, .inl (nA lw))), (ad 15, .inl (cI, 10, .inl (nA hg))), (ad 16, .inl (cI, 10, .inl (nA wh))), (ad 17, .inl (cI, 10, .inl (nA mn))), (ad 18, .inl (cI, 200, .inl (nA tu))), (ad 19, .inl (cI, 300, .inl (nA sf))), (ad 20, .inl (cI, 300, .inl (nA sv))), (ad 21, .inl (cI, 300, .inl (nA so))), (ad 22, .inl (cI, 300, .inl (nA sc))), (ad 23, .inl (cI, 6, .inl (nA wo))), (ad 24, .inl (cI, 6, .inl (oA co))), (ad 25, .inl (cI, 6, .inl (oA af))), (ad 27, .inl (cI, 6, .inl (nA ch)))] sz (fun (r : Int32) (u : (Nat → Nat) × (Nat → Option Nat) × (Nat → Option Nat) × (Nat → Nat)) => ((cuR (okX ki wi ro lw hg wh mn tu sf sv so sc dm cs) nm x0 ch = [] ∧ r = bI false) ∨ (cuR (okX ki wi ro lw hg wh mn tu sf sv so sc dm cs) nm x0 ch = u.2.2.2 :: upL (okX ki wi ro lw hg wh mn tu sf sv so sc dm cs) nm nm u.2.2.2 ∧ r = bI true ∧ ∀ j, j < nm → u.2.2.2 j < 6)) ∧ ∀ j, u.1 j < 6) (fun u : (Nat → Nat) × (Nat → Option Nat) × (Nat → Option Nat) × (Nat → Nat) => [(h, .inr (10, oM ad nm mk rd cs)), (ad 1, .inl (cI, 6, .inl (nA dm))), (ad 10, .inl (cI, 10, .inl (nA ki))), (ad 11, .inl (cI, 10, .inl (nA wi))), (ad 12, .inl (cI, 10, .inl (nA rc))), (ad 13, .inl (cI, 60, .inl (nA ro))), (ad 14, .inl (cI, 10, .inl (nA lw))), (ad 15, .inl (cI, 10, .inl (nA hg))), (ad 16, .inl (cI, 10, .inl (nA wh))), (ad 17, .inl (cI, 10, .inl (nA mn))), (ad 18, .inl (cI, 200, .inl (nA tu))), (ad 19, .inl (cI, 300, .inl (nA sf))), (ad 20, .inl (cI, 300, .inl (nA sv))), (ad 21, .inl (cI, 300, .inl (nA so))), (ad 22, .inl (cI, 300, .inl (nA sc))), (ad 23, .inl (cI, 6, .inl (nA u.1))), (ad 24, .inl (cI, 6, .inl (oA u.2.1))), (ad 25, .inl (cI, 6, .inl (oA u.2.2.1))), (ad 27, .inl (cI, 6, .inl (nA u.2.2.2)))])) ([.ref h, .int (nI x0)] : List Value).toArray s 0 0 A) (F0 m 2 ls []) := by
    intro fuel2
    induction fuel2 with
    | zero => intros; omega
    | succ fuel2 ih2 =>
      intro x g w co1 af1 hxm hfu hR hg6 hgx hw6 H locs ls hP hD hS hl
      refine lv_iload_n hx hb d_M_solve_2 rfl (lv_at hl 0 rfl) ?_
      refine z_lt (tgt := 116) hx hb (by omega) d_M_solve_3 (by decide) ?_
      refine lv_iload_n hx hb d_M_solve_6 rfl (lv_at hl 0 rfl) ?_
      refine lv_aload_n hx hb d_M_solve_7 rfl (lv_at hl 1 rfl) ?_
      refine r_get C0 hK hP 0 rfl rfl i_M 0 (by decide) wt_663 (fun _ h => h) rfl d_M_solve_8 ?_
      refine b_ge (tgt := 116) hx hb (by omega) (by omega) d_M_solve_11 (by decide) (fun c_11 => ?_) (fun c_11 => ?_)
      · have hxe : x = nm := by omega
        refine lv_iload_n hx hb d_M_solve_116 rfl (lv_at hl 0 rfl) ?_
        refine z_lt (tgt := 124) hx hb (by omega) d_M_solve_117 (by decide) ?_
        refine lv_iconst (v := (nI 1)) hx hb d_M_solve_120 (by decide) ?_
        refine lv_goto (tgt := 125) hx hb d_M_solve_121 (by decide) ?_
        exact ret_i C0 hr hlk hAe hS (w, co1, af1, g) (⟨Or.inr ⟨by rw [← hR, hxe]; exact cuR_ge (by omega), rfl, fun j hj => hg6 j (by omega)⟩, hw6⟩) hP hD rfl (Nat.le_of_ble_eq_true rfl) (Nat.le_of_ble_eq_true rfl) d_M_solve_125
      · have L14 : ∀ (fuel14 : Nat) (g2 : Nat → Nat) (w2 : Nat → Nat) (co2 : Nat → Option Nat) (af2 : Nat → Option Nat), (6 < g2 x + fuel14) → (muS nm x g2 ≤ muS nm x g) → (cuR (okX ki wi ro lw hg wh mn tu sf sv so sc dm cs) nm x g2 = cuR (okX ki wi ro lw hg wh mn tu sf sv so sc dm cs) nm x0 ch) → (∀ j, j < x → g2 j < 6) → (g2 x ≤ 6) → (∀ j, w2 j < 6) → ∀ (H : Heap) (locs : List Loc) (ls : Array Slot), va_P D cls [(h, .inr (10, oM ad nm mk rd cs)), (ad 1, .inl (cI, 6, .inl (nA dm))), (ad 10, .inl (cI, 10, .inl (nA ki))), (ad 11, .inl (cI, 10, .inl (nA wi))), (ad 12, .inl (cI, 10, .inl (nA rc))), (ad 13, .inl (cI, 60, .inl (nA ro))), (ad 14, .inl (cI, 10, .inl (nA lw))), (ad 15, .inl (cI, 10, .inl (nA hg))), (ad 16, .inl (cI, 10, .inl (nA wh))), (ad 17, .inl (cI, 10, .inl (nA mn))), (ad 18, .inl (cI, 200, .inl (nA tu))), (ad 19, .inl (cI, 300, .inl (nA sf))), (ad 20, .inl (cI, 300, .inl (nA sv))), (ad 21, .inl (cI, 300, .inl (nA so))), (ad 22, .inl (cI, 300, .inl (nA sc))), (ad 23, .inl (cI, 6, .inl (nA w2))), (ad 24, .inl (cI, 6, .inl (oA co2))), (ad 25, .inl (cI, 6, .inl (oA af2))), (ad 27, .inl (cI, 6, .inl (nA g2)))] H → va_D A [(h, .inr (10, oM ad nm mk rd cs)), (ad 1, .inl (cI, 6, .inl (nA dm))), (ad 10, .inl (cI, 10, .inl (nA ki))), (ad 11, .inl (cI, 10, .inl (nA wi))), (ad 12, .inl (cI, 10, .inl (nA rc))), (ad 13, .inl (cI, 60, .inl (nA ro))), (ad 14, .inl (cI, 10, .inl (nA lw))), (ad 15, .inl (cI, 10, .inl (nA hg))), (ad 16, .inl (cI, 10, .inl (nA wh))), (ad 17, .inl (cI, 10, .inl (nA mn))), (ad 18, .inl (cI, 200, .inl (nA tu))), (ad 19, .inl (cI, 300, .inl (nA sf))), (ad 20, .inl (cI, 300, .inl (nA sv))), (ad 21, .inl (cI, 300, .inl (nA so))), (ad 22, .inl (cI, 300, .inl (nA sc))), (ad 23, .inl (cI, 6, .inl (nA w2))), (ad 24, .inl (cI, 6, .inl (oA co2))), (ad 25, .inl (cI, 6, .inl (oA af2))), (ad 27, .inl (cI, 6, .inl (nA g2)))] → va_S A s.heap H locs → lv_has ls 3 [(2, .int (nI x)), (0, .ref h), (1, .int (nI x0))] → W p l e { frames := 3, cells := 0, slots := 0, locals := 75 } s m ([.ref h, .int (nI x0)] : List Value).toArray below meth c H locs 0 0 (MQ below (pstI D [(h, .inr (10, oM ad nm mk rd cs)), (ad 1, .inl (cI, 6, .inl (nA dm))), (ad 10, .inl (cI, 10, .inl (nA ki))), (ad 11, .inl (cI, 10, .inl (nA wi))), (ad 12, .inl (cI, 10, .inl (nA rc))), (ad 13, .inl (cI, 60, .inl (nA ro))), (ad 14, .inl (cI, 10, .inl (nA lw))), (ad 15, .inl (cI, 10, .inl (nA hg))), (ad 16, .inl (cI, 10, .inl (nA wh))), (ad 17, .inl (cI, 10, .inl (nA mn))), (ad 18, .inl (cI, 200, .inl (nA tu))), (ad 19, .inl (cI, 300, .inl (nA sf))), (ad 20, .inl (cI, 300, .inl (nA sv))), (ad 21, .inl (cI, 300, .inl (nA so))), (ad 22, .inl (cI, 300, .inl (nA sc))), (ad 23, .inl (cI, 6, .inl (nA wo))), (ad 24, .inl (cI, 6, .inl (oA co))), (ad 25, .inl (cI, 6, .inl (oA af))), (ad 27, .inl (cI, 6, .inl (nA ch)))] sz (fun (r : Int32) (u : (Nat → Nat) × (Nat → Option Nat) × (Nat → Option Nat) × (Nat → Nat)) => ((cuR (okX ki wi ro lw hg wh mn tu sf sv so sc dm cs) nm x0 ch = [] ∧ r = bI false) ∨ (cuR (okX ki wi ro lw hg wh mn tu sf sv so sc dm cs) nm x0 ch = u.2.2.2 :: upL (okX ki wi ro lw hg wh mn tu sf sv so sc dm cs) nm nm u.2.2.2 ∧ r = bI true ∧ ∀ j, j < nm → u.2.2.2 j < 6)) ∧ ∀ j, u.1 j < 6) (fun u : (Nat → Nat) × (Nat → Option Nat) × (Nat → Option Nat) × (Nat → Nat) => [(h, .inr (10, oM ad nm mk rd cs)), (ad 1, .inl (cI, 6, .inl (nA dm))), (ad 10, .inl (cI, 10, .inl (nA ki))), (ad 11, .inl (cI, 10, .inl (nA wi))), (ad 12, .inl (cI, 10, .inl (nA rc))), (ad 13, .inl (cI, 60, .inl (nA ro))), (ad 14, .inl (cI, 10, .inl (nA lw))), (ad 15, .inl (cI, 10, .inl (nA hg))), (ad 16, .inl (cI, 10, .inl (nA wh))), (ad 17, .inl (cI, 10, .inl (nA mn))), (ad 18, .inl (cI, 200, .inl (nA tu))), (ad 19, .inl (cI, 300, .inl (nA sf))), (ad 20, .inl (cI, 300, .inl (nA sv))), (ad 21, .inl (cI, 300, .inl (nA so))), (ad 22, .inl (cI, 300, .inl (nA sc))), (ad 23, .inl (cI, 6, .inl (nA u.1))), (ad 24, .inl (cI, 6, .inl (oA u.2.1))), (ad 25, .inl (cI, 6, .inl (oA u.2.2.1))), (ad 27, .inl (cI, 6, .inl (nA u.2.2.2)))])) ([.ref h, .int (nI x0)] : List Value).toArray s 0 0 A) (F0 m 14 ls []) := by
          intro fuel14
          induction fuel14 with
          | zero => intros; omega
          | succ fuel14 ih14 =>
            intro g2 w2 co2 af2 hf2 hm2 hR1 hb6 hbx hv6 H locs ls hP hD hS hl
            have hdx := hdm x
            refine lv_aload_n hx hb d_M_solve_14 rfl (lv_at hl 1 rfl) ?_
            refine r_get C0 hK hP 0 rfl rfl i_M 27 (by decide) wt_690 (fun _ h => h) rfl d_M_solve_15 ?_
            refine lv_iload_n hx hb d_M_solve_18 rfl (lv_at hl 0 rfl) ?_
            refine r_ald C0 hK hP 18 rfl (by omega) (by decide) d_M_solve_19 ?_
            refine t_eq (y := (nI (g2 x))) rfl ?_
            refine lv_bipush (v := (nI 6)) hx hb d_M_solve_20 (by decide) ?_
            refine b_ge (tgt := 64) hx hb (by omega) (by decide) d_M_solve_22 (by decide) (fun c_22 => ?_) (fun c_22 => ?_)
            · have hge : 6 ≤ g2 x := c_22
              have hv7 := hv6
              refine lv_aload_n hx hb d_M_solve_64 rfl (lv_at hl 1 rfl) ?_
              refine r_get C0 hK hP 0 rfl rfl i_M 27 (by decide) wt_690 (fun _ h => h) rfl d_M_solve_65 ?_
              refine lv_iload_n hx hb d_M_solve_68 rfl (lv_at hl 0 rfl) ?_
              refine r_ald C0 hK hP 18 rfl (by omega) (by decide) d_M_solve_69 ?_
              refine t_eq (y := (nI (g2 x))) rfl ?_
              refine lv_bipush (v := (nI 6)) hx hb d_M_solve_70 (by decide) ?_
              refine b_ge (tgt := 96) hx hb (by omega) (by decide) d_M_solve_72 (by decide) (fun c_72 => ?_) (fun c_72 => ?_)
              · rcases Nat.eq_zero_or_pos x with hxz | hxz
                · subst hxz
                  refine lv_iinc (v := (-1)) (lv' := [(2, .int (-1)), (0, .ref h), (1, .int (nI x0))]) hx hb d_M_solve_96 hl (k := 0) rfl (by decide) (by decide) rfl (fun ls hl => ?_)
                  refine lv_iload_n hx hb d_M_solve_99 rfl (lv_at hl 0 rfl) ?_
                  refine lv_if_lt (tgt := 2) hx hb d_M_solve_100 (by decide) (fun c_100 => ?_) (fun c_100 => ?_)
                  · refine lv_iload_n hx hb d_M_solve_2 rfl (lv_at hl 0 rfl) ?_
                    refine lv_if_lt (tgt := 116) hx hb d_M_solve_3 (by decide) (fun c_3 => ?_) (fun c_3 => ?_)
                    · refine lv_iload_n hx hb d_M_solve_116 rfl (lv_at hl 0 rfl) ?_
                      refine lv_if_lt (tgt := 124) hx hb d_M_solve_117 (by decide) (fun c_117 => ?_) (fun c_117 => ?_)
                      · refine lv_iconst (v := (nI 0)) hx hb d_M_solve_124 (by decide) ?_
                        exact ret_i C0 hr hlk hAe hS (w2, co2, af2, g2) (⟨Or.inl ⟨by rw [← hR1, cuR_lt (by omega)]; exact rst_end c_72, rfl⟩, hv7⟩) hP hD rfl (Nat.le_of_ble_eq_true rfl) (Nat.le_of_ble_eq_true rfl) d_M_solve_125
                      · exact absurd (by decide) c_117
                    · exact absurd (by decide) c_3
                  · exact absurd (by decide) c_100
                · obtain ⟨y, rfl⟩ : ∃ y, x = y + 1 := ⟨x - 1, by omega⟩
                  have hy6 := hb6 y (by omega)
                  refine lv_iinc (v := (nI y)) (lv' := [(2, .int (nI y)), (0, .ref h), (1, .int (nI x0))]) hx hb d_M_solve_96 hl (k := 0) rfl (by exact sb_m1 (by omega)) (by decide) rfl (fun ls hl => ?_)
                  refine lv_iload_n hx hb d_M_solve_99 rfl (lv_at hl 0 rfl) ?_
                  refine z_lt (tgt := 2) hx hb (by omega) d_M_solve_100 (by decide) ?_
                  refine lv_aload_n hx hb d_M_solve_103 rfl (lv_at hl 1 rfl) ?_
                  refine r_get C0 hK hP 0 rfl rfl i_M 27 (by decide) wt_690 (fun _ h => h) rfl d_M_solve_104 ?_
                  refine lv_iload_n hx hb d_M_solve_107 rfl (lv_at hl 0 rfl) ?_
                  refine lv_dup2_11 hx hb d_M_solve_108 rfl rfl ?_
                  refine r_ald C0 hK hP 18 rfl (by omega) (by decide) d_M_solve_109 ?_
                  refine t_eq (y := (nI (g2 y))) rfl ?_
                  refine lv_iconst (v := (nI 1)) hx hb d_M_solve_110 (by decide) ?_
                  refine lv_iadd hx hb d_M_solve_111 ?_
                  refine t_eq (y := (nI ((g2 y) + 1))) (nI_add _ _) ?_
                  refine r_astN C0 hK hP hD hS 18 rfl (by omega) (by decide) d_M_solve_112 (fun H locs hP hD hS => ?_)
                  have hP : va_P D cls [(h, .inr (10, oM ad nm mk rd cs)), (ad 1, .inl (cI, 6, .inl (nA dm))), (ad 10, .inl (cI, 10, .inl (nA ki))), (ad 11, .inl (cI, 10, .inl (nA wi))), (ad 12, .inl (cI, 10, .inl (nA rc))), (ad 13, .inl (cI, 60, .inl (nA ro))), (ad 14, .inl (cI, 10, .inl (nA lw))), (ad 15, .inl (cI, 10, .inl (nA hg))), (ad 16, .inl (cI, 10, .inl (nA wh))), (ad 17, .inl (cI, 10, .inl (nA mn))), (ad 18, .inl (cI, 200, .inl (nA tu))), (ad 19, .inl (cI, 300, .inl (nA sf))), (ad 20, .inl (cI, 300, .inl (nA sv))), (ad 21, .inl (cI, 300, .inl (nA so))), (ad 22, .inl (cI, 300, .inl (nA sc))), (ad 23, .inl (cI, 6, .inl (nA w2))), (ad 24, .inl (cI, 6, .inl (oA co2))), (ad 25, .inl (cI, 6, .inl (oA af2))), (ad 27, .inl (cI, 6, .inl (nA (va_up g2 y ((g2 y) + 1)))))] H := hP
                  have hD : va_D A [(h, .inr (10, oM ad nm mk rd cs)), (ad 1, .inl (cI, 6, .inl (nA dm))), (ad 10, .inl (cI, 10, .inl (nA ki))), (ad 11, .inl (cI, 10, .inl (nA wi))), (ad 12, .inl (cI, 10, .inl (nA rc))), (ad 13, .inl (cI, 60, .inl (nA ro))), (ad 14, .inl (cI, 10, .inl (nA lw))), (ad 15, .inl (cI, 10, .inl (nA hg))), (ad 16, .inl (cI, 10, .inl (nA wh))), (ad 17, .inl (cI, 10, .inl (nA mn))), (ad 18, .inl (cI, 200, .inl (nA tu))), (ad 19, .inl (cI, 300, .inl (nA sf))), (ad 20, .inl (cI, 300, .inl (nA sv))), (ad 21, .inl (cI, 300, .inl (nA so))), (ad 22, .inl (cI, 300, .inl (nA sc))), (ad 23, .inl (cI, 6, .inl (nA w2))), (ad 24, .inl (cI, 6, .inl (oA co2))), (ad 25, .inl (cI, 6, .inl (oA af2))), (ad 27, .inl (cI, 6, .inl (nA (va_up g2 y ((g2 y) + 1)))))] := hD
                  have hR2 : cuR (okX ki wi ro lw hg wh mn tu sf sv so sc dm cs) nm y (va_up g2 y (g2 y + 1)) = cuR (okX ki wi ro lw hg wh mn tu sf sv so sc dm cs) nm x0 ch := by rw [← hR1, cuR_lt (by omega), cuR_lt (by omega)]; exact (rst_out hdep (by omega) c_72).symm
                  have hfu2 : muS nm y (va_up g2 y (g2 y + 1)) < fuel2 := by have q := mu_out (nm := nm) (by omega) hy6; omega
                  have hg62 : ∀ j, j < y → va_up g2 y (g2 y + 1) j < 6 := fun j hj => by rw [va_up_ne _ _ (by omega)]; exact hb6 j (by omega)
                  have hgx2 : y < nm → va_up g2 y (g2 y + 1) y ≤ 6 := fun _ => by rw [va_up_self]; omega
                  have hw62 := hv7
                  refine lv_goto (tgt := 2) hx hb d_M_solve_113 (by decide) ?_
                  exact ih2 y (va_up g2 y ((g2 y) + 1)) w2 co2 af2 (by omega) hfu2 hR2 hg62 hgx2 hw62 _ _ _ hP hD hS (lv_sub hl [0, 1, 2] rfl)
              · exact absurd c_72 (by omega)
            · refine lv_aload_n hx hb d_M_solve_25 rfl (lv_at hl 1 rfl) ?_
              refine r_get C0 hK hP 0 rfl rfl i_M 1 (by decide) wt_664 (fun _ h => h) rfl d_M_solve_26 ?_
              refine lv_iload_n hx hb d_M_solve_29 rfl (lv_at hl 0 rfl) ?_
              refine r_ald C0 hK hP 1 rfl (by omega) (by decide) d_M_solve_30 ?_
              refine t_eq (y := (nI (dm x))) rfl ?_
              refine lv_aload_n hx hb d_M_solve_31 rfl (lv_at hl 1 rfl) ?_
              refine r_get C0 hK hP 0 rfl rfl i_M 27 (by decide) wt_690 (fun _ h => h) rfl d_M_solve_32 ?_
              refine lv_iload_n hx hb d_M_solve_35 rfl (lv_at hl 0 rfl) ?_
              refine r_ald C0 hK hP 18 rfl (by omega) (by decide) d_M_solve_36 ?_
              refine t_eq (y := (nI (g2 x))) rfl ?_
              refine lv_ishr hx hb d_M_solve_37 ?_
              refine t_eq (y := (nI ((dm x) / 2 ^ (g2 x)))) (m_shr (by omega) (by omega)) ?_
              refine lv_iconst (v := (nI 1)) hx hb d_M_solve_38 (by decide) ?_
              refine lv_iand hx hb d_M_solve_39 ?_
              refine t_eq (y := (nI (((dm x) / 2 ^ (g2 x)) % 2))) (m_and1 _) ?_
              refine z_eq (tgt := 51) hx hb (by omega) d_M_solve_40 (by decide) (fun c_40 => ?_) (fun c_40 => ?_)
              · have hof := okX_f1 (ki := ki) (wi := wi) (ro := ro) (lw := lw) (hg := hg) (wh := wh) (mn := mn) (tu := tu) (sf := sf) (sv := sv) (so := so) (sc := sc) (cs := cs) c_40
                have hv7 := hv6
                have hR3 : cuR (okX ki wi ro lw hg wh mn tu sf sv so sc dm cs) nm x (va_up g2 x (g2 x + 1)) = cuR (okX ki wi ro lw hg wh mn tu sf sv so sc dm cs) nm x0 ch := by rw [cuR_lt (by omega)] at hR1 ⊢; rw [← hR1]; exact (rst_skip hdep (by omega) c_22 hof).symm
                refine lv_aload_n hx hb d_M_solve_51 rfl (lv_at hl 1 rfl) ?_
                refine r_get C0 hK hP 0 rfl rfl i_M 27 (by decide) wt_690 (fun _ h => h) rfl d_M_solve_52 ?_
                refine lv_iload_n hx hb d_M_solve_55 rfl (lv_at hl 0 rfl) ?_
                refine lv_dup2_11 hx hb d_M_solve_56 rfl rfl ?_
                refine r_ald C0 hK hP 18 rfl (by omega) (by decide) d_M_solve_57 ?_
                refine t_eq (y := (nI (g2 x))) rfl ?_
                refine lv_iconst (v := (nI 1)) hx hb d_M_solve_58 (by decide) ?_
                refine lv_iadd hx hb d_M_solve_59 ?_
                refine t_eq (y := (nI ((g2 x) + 1))) (nI_add _ _) ?_
                refine r_astN C0 hK hP hD hS 18 rfl (by omega) (by decide) d_M_solve_60 (fun H locs hP hD hS => ?_)
                have hP : va_P D cls [(h, .inr (10, oM ad nm mk rd cs)), (ad 1, .inl (cI, 6, .inl (nA dm))), (ad 10, .inl (cI, 10, .inl (nA ki))), (ad 11, .inl (cI, 10, .inl (nA wi))), (ad 12, .inl (cI, 10, .inl (nA rc))), (ad 13, .inl (cI, 60, .inl (nA ro))), (ad 14, .inl (cI, 10, .inl (nA lw))), (ad 15, .inl (cI, 10, .inl (nA hg))), (ad 16, .inl (cI, 10, .inl (nA wh))), (ad 17, .inl (cI, 10, .inl (nA mn))), (ad 18, .inl (cI, 200, .inl (nA tu))), (ad 19, .inl (cI, 300, .inl (nA sf))), (ad 20, .inl (cI, 300, .inl (nA sv))), (ad 21, .inl (cI, 300, .inl (nA so))), (ad 22, .inl (cI, 300, .inl (nA sc))), (ad 23, .inl (cI, 6, .inl (nA w2))), (ad 24, .inl (cI, 6, .inl (oA co2))), (ad 25, .inl (cI, 6, .inl (oA af2))), (ad 27, .inl (cI, 6, .inl (nA (va_up g2 x ((g2 x) + 1)))))] H := hP
                have hD : va_D A [(h, .inr (10, oM ad nm mk rd cs)), (ad 1, .inl (cI, 6, .inl (nA dm))), (ad 10, .inl (cI, 10, .inl (nA ki))), (ad 11, .inl (cI, 10, .inl (nA wi))), (ad 12, .inl (cI, 10, .inl (nA rc))), (ad 13, .inl (cI, 60, .inl (nA ro))), (ad 14, .inl (cI, 10, .inl (nA lw))), (ad 15, .inl (cI, 10, .inl (nA hg))), (ad 16, .inl (cI, 10, .inl (nA wh))), (ad 17, .inl (cI, 10, .inl (nA mn))), (ad 18, .inl (cI, 200, .inl (nA tu))), (ad 19, .inl (cI, 300, .inl (nA sf))), (ad 20, .inl (cI, 300, .inl (nA sv))), (ad 21, .inl (cI, 300, .inl (nA so))), (ad 22, .inl (cI, 300, .inl (nA sc))), (ad 23, .inl (cI, 6, .inl (nA w2))), (ad 24, .inl (cI, 6, .inl (oA co2))), (ad 25, .inl (cI, 6, .inl (oA af2))), (ad 27, .inl (cI, 6, .inl (nA (va_up g2 x ((g2 x) + 1)))))] := hD
                refine lv_goto (tgt := 14) hx hb d_M_solve_61 (by decide) ?_
                exact ih14 (va_up g2 x ((g2 x) + 1)) w2 co2 af2 (by rw [va_up_self]; omega) (Nat.le_trans (mu_inc c_22) hm2) hR3 (fun j hj => by rw [va_up_ne _ _ (by omega)]; exact hb6 j hj) (by rw [va_up_self]; omega) hv7 _ _ _ hP hD hS (lv_sub hl [0, 1, 2] rfl)
              · refine lv_aload_n hx hb d_M_solve_43 rfl (lv_at hl 1 rfl) ?_
                refine lv_iload_n hx hb d_M_solve_44 rfl (lv_at hl 0 rfl) ?_
                refine call_i (rm := { frames := 2, cells := 0, slots := 0, locals := 50 }) hS hP hD hA (spl_mk (wc := [(h, .inr (10, oM ad nm mk rd cs)), (ad 1, .inl (cI, 6, .inl (nA dm))), (ad 10, .inl (cI, 10, .inl (nA ki))), (ad 11, .inl (cI, 10, .inl (nA wi))), (ad 12, .inl (cI, 10, .inl (nA rc))), (ad 13, .inl (cI, 60, .inl (nA ro))), (ad 14, .inl (cI, 10, .inl (nA lw))), (ad 15, .inl (cI, 10, .inl (nA hg))), (ad 16, .inl (cI, 10, .inl (nA wh))), (ad 17, .inl (cI, 10, .inl (nA mn))), (ad 18, .inl (cI, 200, .inl (nA tu))), (ad 19, .inl (cI, 300, .inl (nA sf))), (ad 20, .inl (cI, 300, .inl (nA sv))), (ad 21, .inl (cI, 300, .inl (nA so))), (ad 22, .inl (cI, 300, .inl (nA sc))), (ad 23, .inl (cI, 6, .inl (nA w2))), (ad 24, .inl (cI, 6, .inl (oA co2))), (ad 25, .inl (cI, 6, .inl (oA af2))), (ad 27, .inl (cI, 6, .inl (nA g2)))]) (wr := []) [0, 1, 2, 3, 4, 5, 6, 7, 8, 9, 10, 11, 12, 13, 14, 15, 16, 17, 18] [] rfl rfl (by decide)) (run_v (n := 1) (As := [.int (nI x)]) (rest := []) (q0 := 0) (ci := 10) C0 (hK.sub [] rfl) (c_M_isBarred l D cI H.size h ad nm mk rd cs dm ki wi rc ro lw hg wh mn tu sf sv so sc w2 co2 af2 g2 x hcs hok hv6 (by omega) (fun j hj => by rcases Nat.lt_or_eq_of_le hj with q | q; exact hb6 j q; rw [q]; exact c_22)) rfl rfl wt_900 wt_4 wt_897 wt_899 wp_31 (by decide +kernel) ⟨Nat.le_of_ble_eq_true rfl, Nat.le_of_ble_eq_true rfl⟩ rfl hl.1 rfl (Nat.le_of_ble_eq_true rfl) d_M_solve_45 ⟨Nat.le_of_ble_eq_true rfl, Nat.le_of_ble_eq_true rfl⟩) (fun r_45 u_45 H locs hw_45 hP hD hS => ?_)
                have hP : va_P D cls [(h, .inr (10, oM ad nm mk rd cs)), (ad 1, .inl (cI, 6, .inl (nA dm))), (ad 10, .inl (cI, 10, .inl (nA ki))), (ad 11, .inl (cI, 10, .inl (nA wi))), (ad 12, .inl (cI, 10, .inl (nA rc))), (ad 13, .inl (cI, 60, .inl (nA ro))), (ad 14, .inl (cI, 10, .inl (nA lw))), (ad 15, .inl (cI, 10, .inl (nA hg))), (ad 16, .inl (cI, 10, .inl (nA wh))), (ad 17, .inl (cI, 10, .inl (nA mn))), (ad 18, .inl (cI, 200, .inl (nA tu))), (ad 19, .inl (cI, 300, .inl (nA sf))), (ad 20, .inl (cI, 300, .inl (nA sv))), (ad 21, .inl (cI, 300, .inl (nA so))), (ad 22, .inl (cI, 300, .inl (nA sc))), (ad 23, .inl (cI, 6, .inl (nA u_45.1))), (ad 24, .inl (cI, 6, .inl (oA u_45.2.1))), (ad 25, .inl (cI, 6, .inl (oA u_45.2.2))), (ad 27, .inl (cI, 6, .inl (nA g2)))] H := hP
                have hD : va_D A [(h, .inr (10, oM ad nm mk rd cs)), (ad 1, .inl (cI, 6, .inl (nA dm))), (ad 10, .inl (cI, 10, .inl (nA ki))), (ad 11, .inl (cI, 10, .inl (nA wi))), (ad 12, .inl (cI, 10, .inl (nA rc))), (ad 13, .inl (cI, 60, .inl (nA ro))), (ad 14, .inl (cI, 10, .inl (nA lw))), (ad 15, .inl (cI, 10, .inl (nA hg))), (ad 16, .inl (cI, 10, .inl (nA wh))), (ad 17, .inl (cI, 10, .inl (nA mn))), (ad 18, .inl (cI, 200, .inl (nA tu))), (ad 19, .inl (cI, 300, .inl (nA sf))), (ad 20, .inl (cI, 300, .inl (nA sv))), (ad 21, .inl (cI, 300, .inl (nA so))), (ad 22, .inl (cI, 300, .inl (nA sc))), (ad 23, .inl (cI, 6, .inl (nA u_45.1))), (ad 24, .inl (cI, 6, .inl (oA u_45.2.1))), (ad 25, .inl (cI, 6, .inl (oA u_45.2.2))), (ad 27, .inl (cI, 6, .inl (nA g2)))] := hD
                obtain ⟨hr45, hv7⟩ := hw_45
                subst hr45
                refine y_eq (tgt := 64) hx hb d_M_solve_48 (by decide) (fun c_48 => ?_) (fun c_48 => ?_)
                · have hoT : (okX ki wi ro lw hg wh mn tu sf sv so sc dm cs) x g2 = true := okX_t c_40 c_48
                  refine lv_aload_n hx hb d_M_solve_64 rfl (lv_at hl 1 rfl) ?_
                  refine r_get C0 hK hP 0 rfl rfl i_M 27 (by decide) wt_690 (fun _ h => h) rfl d_M_solve_65 ?_
                  refine lv_iload_n hx hb d_M_solve_68 rfl (lv_at hl 0 rfl) ?_
                  refine r_ald C0 hK hP 18 rfl (by omega) (by decide) d_M_solve_69 ?_
                  refine t_eq (y := (nI (g2 x))) rfl ?_
                  refine lv_bipush (v := (nI 6)) hx hb d_M_solve_70 (by decide) ?_
                  refine b_ge (tgt := 96) hx hb (by omega) (by decide) d_M_solve_72 (by decide) (fun c_72 => ?_) (fun c_72 => ?_)
                  · exact absurd c_72 (by omega)
                  · refine lv_iinc (v := (nI (x + 1))) (lv' := [(2, .int (nI (x + 1))), (0, .ref h), (1, .int (nI x0))]) hx hb d_M_solve_75 hl (k := 0) rfl (by exact nI_1 _) (by decide) rfl (fun ls hl => ?_)
                    refine lv_iload_n hx hb d_M_solve_78 rfl (lv_at hl 0 rfl) ?_
                    refine lv_aload_n hx hb d_M_solve_79 rfl (lv_at hl 1 rfl) ?_
                    refine r_get C0 hK hP 0 rfl rfl i_M 0 (by decide) wt_663 (fun _ h => h) rfl d_M_solve_80 ?_
                    refine b_ge (tgt := 2) hx hb (by omega) (by omega) d_M_solve_83 (by decide) (fun c_83 => ?_) (fun c_83 => ?_)
                    · have hxn : x + 1 = nm := by omega
                      have hR2 : cuR (okX ki wi ro lw hg wh mn tu sf sv so sc dm cs) nm (x + 1) g2 = cuR (okX ki wi ro lw hg wh mn tu sf sv so sc dm cs) nm x0 ch := by rw [← hR1, cuR_lt (x := x) (by omega)]; exact (rst_in2 hxn c_22 hoT).symm
                      have hfu2 : muS nm (x + 1) g2 < fuel2 := by have q := mu_in2 (ch := g2) hxn; omega
                      have hg62 : ∀ j, j < x + 1 → g2 j < 6 := fun j hj => by rcases Nat.lt_or_eq_of_le (Nat.le_of_lt_succ hj) with q | q; exact hb6 j q; rw [q]; exact c_22
                      have hgx2 : x + 1 < nm → g2 (x + 1) ≤ 6 := fun q => by omega
                      have hw62 := hv7
                      exact ih2 (x + 1) g2 u_45.1 u_45.2.1 u_45.2.2 (by omega) hfu2 hR2 hg62 hgx2 hw62 _ _ _ hP hD hS (lv_sub hl [0, 1, 2] rfl)
                    · refine lv_aload_n hx hb d_M_solve_86 rfl (lv_at hl 1 rfl) ?_
                      refine r_get C0 hK hP 0 rfl rfl i_M 27 (by decide) wt_690 (fun _ h => h) rfl d_M_solve_87 ?_
                      refine lv_iload_n hx hb d_M_solve_90 rfl (lv_at hl 0 rfl) ?_
                      refine lv_iconst (v := (nI 0)) hx hb d_M_solve_91 (by decide) ?_
                      refine r_astN C0 hK hP hD hS 18 rfl (by omega) (by decide) d_M_solve_92 (fun H locs hP hD hS => ?_)
                      have hP : va_P D cls [(h, .inr (10, oM ad nm mk rd cs)), (ad 1, .inl (cI, 6, .inl (nA dm))), (ad 10, .inl (cI, 10, .inl (nA ki))), (ad 11, .inl (cI, 10, .inl (nA wi))), (ad 12, .inl (cI, 10, .inl (nA rc))), (ad 13, .inl (cI, 60, .inl (nA ro))), (ad 14, .inl (cI, 10, .inl (nA lw))), (ad 15, .inl (cI, 10, .inl (nA hg))), (ad 16, .inl (cI, 10, .inl (nA wh))), (ad 17, .inl (cI, 10, .inl (nA mn))), (ad 18, .inl (cI, 200, .inl (nA tu))), (ad 19, .inl (cI, 300, .inl (nA sf))), (ad 20, .inl (cI, 300, .inl (nA sv))), (ad 21, .inl (cI, 300, .inl (nA so))), (ad 22, .inl (cI, 300, .inl (nA sc))), (ad 23, .inl (cI, 6, .inl (nA u_45.1))), (ad 24, .inl (cI, 6, .inl (oA u_45.2.1))), (ad 25, .inl (cI, 6, .inl (oA u_45.2.2))), (ad 27, .inl (cI, 6, .inl (nA (va_up g2 (x + 1) 0))))] H := hP
                      have hD : va_D A [(h, .inr (10, oM ad nm mk rd cs)), (ad 1, .inl (cI, 6, .inl (nA dm))), (ad 10, .inl (cI, 10, .inl (nA ki))), (ad 11, .inl (cI, 10, .inl (nA wi))), (ad 12, .inl (cI, 10, .inl (nA rc))), (ad 13, .inl (cI, 60, .inl (nA ro))), (ad 14, .inl (cI, 10, .inl (nA lw))), (ad 15, .inl (cI, 10, .inl (nA hg))), (ad 16, .inl (cI, 10, .inl (nA wh))), (ad 17, .inl (cI, 10, .inl (nA mn))), (ad 18, .inl (cI, 200, .inl (nA tu))), (ad 19, .inl (cI, 300, .inl (nA sf))), (ad 20, .inl (cI, 300, .inl (nA sv))), (ad 21, .inl (cI, 300, .inl (nA so))), (ad 22, .inl (cI, 300, .inl (nA sc))), (ad 23, .inl (cI, 6, .inl (nA u_45.1))), (ad 24, .inl (cI, 6, .inl (oA u_45.2.1))), (ad 25, .inl (cI, 6, .inl (oA u_45.2.2))), (ad 27, .inl (cI, 6, .inl (nA (va_up g2 (x + 1) 0))))] := hD
                      have hR2 : cuR (okX ki wi ro lw hg wh mn tu sf sv so sc dm cs) nm (x + 1) (va_up g2 (x + 1) 0) = cuR (okX ki wi ro lw hg wh mn tu sf sv so sc dm cs) nm x0 ch := by rw [← hR1, cuR_lt (x := x) (by omega)]; exact (rst_in1 hdep (by omega) c_22 hoT).symm
                      have hfu2 : muS nm (x + 1) (va_up g2 (x + 1) 0) < fuel2 := by have q := mu_in1 (nm := nm) (x := x) (ch := g2) (by omega); omega
                      have hg62 : ∀ j, j < x + 1 → va_up g2 (x + 1) 0 j < 6 := fun j hj => by rw [va_up_ne _ _ (by omega)]; rcases Nat.lt_or_eq_of_le (Nat.le_of_lt_succ hj) with q | q; exact hb6 j q; rw [q]; exact c_22
                      have hgx2 : x + 1 < nm → va_up g2 (x + 1) 0 (x + 1) ≤ 6 := fun q => by rw [va_up_self]; omega
                      have hw62 := hv7
                      refine lv_goto (tgt := 2) hx hb d_M_solve_93 (by decide) ?_
                      exact ih2 (x + 1) (va_up g2 (x + 1) 0) u_45.1 u_45.2.1 u_45.2.2 (by omega) hfu2 hR2 hg62 hgx2 hw62 _ _ _ hP hD hS (lv_sub hl [0, 1, 2] rfl)
                · have hof : (okX ki wi ro lw hg wh mn tu sf sv so sc dm cs) x g2 = false := okX_f2 c_48
                  have hR3 : cuR (okX ki wi ro lw hg wh mn tu sf sv so sc dm cs) nm x (va_up g2 x (g2 x + 1)) = cuR (okX ki wi ro lw hg wh mn tu sf sv so sc dm cs) nm x0 ch := by rw [cuR_lt (by omega)] at hR1 ⊢; rw [← hR1]; exact (rst_skip hdep (by omega) c_22 hof).symm
                  refine lv_aload_n hx hb d_M_solve_51 rfl (lv_at hl 1 rfl) ?_
                  refine r_get C0 hK hP 0 rfl rfl i_M 27 (by decide) wt_690 (fun _ h => h) rfl d_M_solve_52 ?_
                  refine lv_iload_n hx hb d_M_solve_55 rfl (lv_at hl 0 rfl) ?_
                  refine lv_dup2_11 hx hb d_M_solve_56 rfl rfl ?_
                  refine r_ald C0 hK hP 18 rfl (by omega) (by decide) d_M_solve_57 ?_
                  refine t_eq (y := (nI (g2 x))) rfl ?_
                  refine lv_iconst (v := (nI 1)) hx hb d_M_solve_58 (by decide) ?_
                  refine lv_iadd hx hb d_M_solve_59 ?_
                  refine t_eq (y := (nI ((g2 x) + 1))) (nI_add _ _) ?_
                  refine r_astN C0 hK hP hD hS 18 rfl (by omega) (by decide) d_M_solve_60 (fun H locs hP hD hS => ?_)
                  have hP : va_P D cls [(h, .inr (10, oM ad nm mk rd cs)), (ad 1, .inl (cI, 6, .inl (nA dm))), (ad 10, .inl (cI, 10, .inl (nA ki))), (ad 11, .inl (cI, 10, .inl (nA wi))), (ad 12, .inl (cI, 10, .inl (nA rc))), (ad 13, .inl (cI, 60, .inl (nA ro))), (ad 14, .inl (cI, 10, .inl (nA lw))), (ad 15, .inl (cI, 10, .inl (nA hg))), (ad 16, .inl (cI, 10, .inl (nA wh))), (ad 17, .inl (cI, 10, .inl (nA mn))), (ad 18, .inl (cI, 200, .inl (nA tu))), (ad 19, .inl (cI, 300, .inl (nA sf))), (ad 20, .inl (cI, 300, .inl (nA sv))), (ad 21, .inl (cI, 300, .inl (nA so))), (ad 22, .inl (cI, 300, .inl (nA sc))), (ad 23, .inl (cI, 6, .inl (nA u_45.1))), (ad 24, .inl (cI, 6, .inl (oA u_45.2.1))), (ad 25, .inl (cI, 6, .inl (oA u_45.2.2))), (ad 27, .inl (cI, 6, .inl (nA (va_up g2 x ((g2 x) + 1)))))] H := hP
                  have hD : va_D A [(h, .inr (10, oM ad nm mk rd cs)), (ad 1, .inl (cI, 6, .inl (nA dm))), (ad 10, .inl (cI, 10, .inl (nA ki))), (ad 11, .inl (cI, 10, .inl (nA wi))), (ad 12, .inl (cI, 10, .inl (nA rc))), (ad 13, .inl (cI, 60, .inl (nA ro))), (ad 14, .inl (cI, 10, .inl (nA lw))), (ad 15, .inl (cI, 10, .inl (nA hg))), (ad 16, .inl (cI, 10, .inl (nA wh))), (ad 17, .inl (cI, 10, .inl (nA mn))), (ad 18, .inl (cI, 200, .inl (nA tu))), (ad 19, .inl (cI, 300, .inl (nA sf))), (ad 20, .inl (cI, 300, .inl (nA sv))), (ad 21, .inl (cI, 300, .inl (nA so))), (ad 22, .inl (cI, 300, .inl (nA sc))), (ad 23, .inl (cI, 6, .inl (nA u_45.1))), (ad 24, .inl (cI, 6, .inl (oA u_45.2.1))), (ad 25, .inl (cI, 6, .inl (oA u_45.2.2))), (ad 27, .inl (cI, 6, .inl (nA (va_up g2 x ((g2 x) + 1)))))] := hD
                  refine lv_goto (tgt := 14) hx hb d_M_solve_61 (by decide) ?_
                  exact ih14 (va_up g2 x ((g2 x) + 1)) u_45.1 u_45.2.1 u_45.2.2 (by rw [va_up_self]; omega) (Nat.le_trans (mu_inc c_22) hm2) hR3 (fun j hj => by rw [va_up_ne _ _ (by omega)]; exact hb6 j hj) (by rw [va_up_self]; omega) hv7 _ _ _ hP hD hS (lv_sub hl [0, 1, 2] rfl)
        exact L14 (7) g w co1 af1 (by omega) (Nat.le_refl _) hR hg6 (hgx (by omega)) hw6 _ _ _ hP hD hS (lv_sub hl [0, 1, 2] rfl)
  exact L2 (muS nm x0 ch + 1) x0 ch wo co af (by omega) (by omega) rfl hch hcx hwo _ _ _ hP hD hS (lv_sub hl [0, 1, 2] rfl)
