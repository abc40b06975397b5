theorem va_P.perm {D : va_G} {cl : List vw_C} {ws ws' : va_W} {H : Heap} (h : va_P D cl ws H) (hp : ws.Perm ws') : va_P D cl ws' H := fun k q hk => by
  have hm : q ∈ ws := hp.mem_iff.mpr (List.mem_of_getElem? hk)
  obtain ⟨i, hi⟩ := List.getElem?_of_mem hm
  exact h i q hi
theorem va_D_pair {A : Nat → Prop} {ws : va_W} : va_D A ws ↔ (ws.map (·.1)).Pairwise (· ≠ ·) ∧ ∀ q ∈ ws, A q.1 := by
  constructor
  · intro h
    refine ⟨?_, fun q hq => ?_⟩
    · rw [List.pairwise_iff_getElem]
      intro i j hi hj hij e
      rw [List.length_map] at hi hj
      rw [List.getElem_map, List.getElem_map] at e
      have := h.1 i j _ _ (List.getElem?_eq_getElem hi) (List.getElem?_eq_getElem hj) e
      omega
    · obtain ⟨i, hi⟩ := List.getElem?_of_mem hq
      exact h.2 i q hi
  · intro h
    refine ⟨fun i j p q hi hj e => ?_, fun k q hk => h.2 q (List.mem_of_getElem? hk)⟩
    have g := List.pairwise_iff_getElem.mp h.1
    obtain ⟨hi1, hi2⟩ := List.getElem?_eq_some_iff.mp hi
    obtain ⟨hj1, hj2⟩ := List.getElem?_eq_some_iff.mp hj
    rcases Nat.lt_trichotomy i j with z | z | z
    · have := g i j (by rw [List.length_map]; exact hi1) (by rw [List.length_map]; exact hj1) z
      rw [List.getElem_map, List.getElem_map, hi2, hj2] at this
      exact absurd e this
    · exact z
    · have := g j i (by rw [List.length_map]; exact hj1) (by rw [List.length_map]; exact hi1) z
      rw [List.getElem_map, List.getElem_map, hi2, hj2] at this
      exact absurd e.symm this
theorem va_D.perm {A : Nat → Prop} {ws ws' : va_W} (h : va_D A ws) (hp : ws.Perm ws') : va_D A ws' := by
  rw [va_D_pair] at h ⊢
  exact ⟨(hp.map _).pairwise_iff (fun {a b} hab => Ne.symm hab) |>.mp h.1, fun q hq => h.2 q (hp.mem_iff.mpr hq)⟩
set_option maxHeartbeats 4000000 in
set_option maxRecDepth 100000 in
theorem c_TC_clear (l : Launch) (D : va_G) (cI : ClassId) (sz : Nat) (cM : ClassId) (cK : ClassId) (h : Nat) (an : Nat) (am : Nat) (ak : Nat) (ap : Nat) (ac : Nat) (nm : Nat) (cs : Nat) (mk : Nat) (lr : Nat) (kf : Nat → Option Nat) (cd : Nat) (cr : Nat) (cn : Nat) (dm : Nat → Nat) (hcs : cs ≤ 10) : MetI l y_TC_clear b_TC_clear 3 (some .int) { frames := 0, cells := 0, slots := 0, locals := 0 } D cI (tyT cM cK) sz [(h, .inr (0, [.ref an, .ref am, .ref ak, .ref ap, .ref ac, .int (nI nm), .int (nI cs), .int (nI mk), .int (nI lr)])), (ak, .inl (cK, 10, .inr (.inr (.inr (.inr kf))))), (an, .inr (1, [.ref cd, .ref cr, .ref cn])), (cd, .inl (cI, 6, .inl (nA dm)))] [.ref h] (fun (r : Int32) (u : (Nat → Option Nat) × (Nat → Nat)) => r = nI cs ∧ (∀ j, j < 10 → u.1 j = none) ∧ ∀ j, j < 6 → u.2 j = 0) (fun u : (Nat → Option Nat) × (Nat → Nat) => [(h, .inr (0, [.ref an, .ref am, .ref ak, .ref ap, .ref ac, .int (nI 0), .int (nI 0), .int (nI 0), .int (nI 0)])), (ak, .inl (cK, 10, .inr (.inr (.inr (.inr u.1))))), (an, .inr (1, [.ref cd, .ref cr, .ref cn])), (cd, .inl (cI, 6, .inl (nA u.2)))]) := by
  refine enter (by decide) (Nat.le_of_ble_eq_true rfl) ?_
  intro p e s m below meth c A ls C0 hr hlk hnm hK hsz hA hAe hP hD hS hl
  have hx := C0.1
  have hb := C0.2.1
  have hl : lv_has ls 3 [(0, .ref h)] := hl
  refine lv_aload_n hx hb d_TC_clear_0 rfl (lv_at hl 0 rfl) ?_
  refine r_get C0 hK hP 0 rfl rfl i_TC 6 (by decide) wt_93 (fun _ h => h) rfl d_TC_clear_1 ?_
  refine lv_istore_n (lv' := [(1, .int (nI cs)), (0, .ref h)]) hx hb d_TC_clear_4 rfl hl (by decide) rfl (fun ls hl => ?_)
  refine lv_iconst (v := (nI 0)) hx hb d_TC_clear_5 (by decide) ?_
  refine lv_istore_n (lv' := [(2, .int (nI 0)), (1, .int (nI cs)), (0, .ref h)]) hx hb d_TC_clear_6 rfl hl (by decide) rfl (fun ls hl => ?_)
  have L7 : ∀ (fuel7 : Nat) (i : Nat) (f : Nat → Option Nat), (i ≤ 10) → (10 < i + fuel7) → (∀ j, j < i → f j = none) → ∀ (H : Heap) (locs : List Loc) (ls : Array Slot), va_P D cls [(h, .inr (0, [.ref an, .ref am, .ref ak, .ref ap, .ref ac, .int (nI nm), .int (nI cs), .int (nI mk), .int (nI lr)])), (ak, .inl (cK, 10, .inr (.inr (.inr (.inr f))))), (an, .inr (1, [.ref cd, .ref cr, .ref cn])), (cd, .inl (cI, 6, .inl (nA dm)))] H → va_D A [(h, .inr (0, [.ref an, .ref am, .ref ak, .ref ap, .ref ac, .int (nI nm), .int (nI cs), .int (nI mk), .int (nI lr)])), (ak, .inl (cK, 10, .inr (.inr (.inr (.inr f))))), (an, .inr (1, [.ref cd, .ref cr, .ref cn])), (cd, .inl (cI, 6, .inl (nA dm)))] → va_S A s.heap H locs → lv_has ls 3 [(2, .int (nI i)), (1, .int (nI cs)), (0, .ref h)] → W p l e { frames := 0, cells := 0, slots := 0, locals := 0 } s m ([.ref h] : List Value).toArray below meth c H locs 0 0 (MQ below (pstI D [(h, .inr (0, [.ref an, .ref am, .ref ak, .ref ap, .ref ac, .int (nI nm), .int (nI cs), .int (nI mk), .int (nI lr)])), (ak, .inl (cK, 10, .inr (.inr (.inr (.inr kf))))), (an, .inr (1, [.ref cd, .ref cr, .ref cn])), (cd, .inl (cI, 6, .inl (nA dm)))] sz (fun (r : Int32) (u : (Nat → Option Nat) × (Nat → Nat)) => r = nI cs ∧ (∀ j, j < 10 → u.1 j = none) ∧ ∀ j, j < 6 → u.2 j = 0) (fun u : (Nat → Option Nat) × (Nat → Nat) => [(h, .inr (0, [.ref an, .ref am, .ref ak, .ref ap, .ref ac, .int (nI 0), .int (nI 0), .int (nI 0), .int (nI 0)])), (ak, .inl (cK, 10, .inr (.inr (.inr (.inr u.1))))), (an, .inr (1, [.ref cd, .ref cr, .ref cn])), (cd, .inl (cI, 6, .inl (nA u.2)))])) ([.ref h] : List Value).toArray s 0 0 A) (F0 m 7 ls []) := by
    intro fuel7
    induction fuel7 with
    | zero => intros; omega
    | succ fuel7 ih7 =>
      intro i f hi hfu hf H locs ls hP hD hS hl
      refine lv_iload_n hx hb d_TC_clear_7 rfl (lv_at hl 0 rfl) ?_
      refine lv_bipush (v := (nI 10)) hx hb d_TC_clear_8 (by decide) ?_
      refine b_ge (tgt := 26) hx hb (by omega) (by decide) d_TC_clear_10 (by decide) (fun c_10 => ?_) (fun c_10 => ?_)
      · obtain rfl : i = 10 := (by omega)
        refine lv_iconst (v := (nI 0)) hx hb d_TC_clear_26 (by decide) ?_
        refine lv_istore_n (lv' := [(2, .int (nI 0)), (1, .int (nI cs)), (0, .ref h)]) hx hb d_TC_clear_27 rfl hl (by decide) rfl (fun ls hl => ?_)
        have L28 : ∀ (fuel28 : Nat) (i2 : Nat) (g : Nat → Nat), (i2 ≤ 6) → (6 < i2 + fuel28) → (∀ j, j < i2 → g j = 0) → ∀ (H : Heap) (locs : List Loc) (ls : Array Slot), va_P D cls [(h, .inr (0, [.ref an, .ref am, .ref ak, .ref ap, .ref ac, .int (nI nm), .int (nI cs), .int (nI mk), .int (nI lr)])), (ak, .inl (cK, 10, .inr (.inr (.inr (.inr f))))), (an, .inr (1, [.ref cd, .ref cr, .ref cn])), (cd, .inl (cI, 6, .inl (nA g)))] H → va_D A [(h, .inr (0, [.ref an, .ref am, .ref ak, .ref ap, .ref ac, .int (nI nm), .int (nI cs), .int (nI mk), .int (nI lr)])), (ak, .inl (cK, 10, .inr (.inr (.inr (.inr f))))), (an, .inr (1, [.ref cd, .ref cr, .ref cn])), (cd, .inl (cI, 6, .inl (nA g)))] → va_S A s.heap H locs → lv_has ls 3 [(2, .int (nI i2)), (1, .int (nI cs)), (0, .ref h)] → W p l e { frames := 0, cells := 0, slots := 0, locals := 0 } s m ([.ref h] : List Value).toArray below meth c H locs 0 0 (MQ below (pstI D [(h, .inr (0, [.ref an, .ref am, .ref ak, .ref ap, .ref ac, .int (nI nm), .int (nI cs), .int (nI mk), .int (nI lr)])), (ak, .inl (cK, 10, .inr (.inr (.inr (.inr kf))))), (an, .inr (1, [.ref cd, .ref cr, .ref cn])), (cd, .inl (cI, 6, .inl (nA dm)))] sz (fun (r : Int32) (u : (Nat → Option Nat) × (Nat → Nat)) => r = nI cs ∧ (∀ j, j < 10 → u.1 j = none) ∧ ∀ j, j < 6 → u.2 j = 0) (fun u : (Nat → Option Nat) × (Nat → Nat) => [(h, .inr (0, [.ref an, .ref am, .ref ak, .ref ap, .ref ac, .int (nI 0), .int (nI 0), .int (nI 0), .int (nI 0)])), (ak, .inl (cK, 10, .inr (.inr (.inr (.inr u.1))))), (an, .inr (1, [.ref cd, .ref cr, .ref cn])), (cd, .inl (cI, 6, .inl (nA u.2)))])) ([.ref h] : List Value).toArray s 0 0 A) (F0 m 28 ls []) := by
          intro fuel28
          induction fuel28 with
          | zero => intros; omega
          | succ fuel28 ih28 =>
            intro i2 g hi2 hfu2 hg H locs ls hP hD hS hl
            refine lv_iload_n hx hb d_TC_clear_28 rfl (lv_at hl 0 rfl) ?_
            refine lv_bipush (v := (nI 6)) hx hb d_TC_clear_29 (by decide) ?_
            refine b_ge (tgt := 50) hx hb (by omega) (by decide) d_TC_clear_31 (by decide) (fun c_31 => ?_) (fun c_31 => ?_)
            · obtain rfl : i2 = 6 := (by omega)
              refine lv_aload_n hx hb d_TC_clear_50 rfl (lv_at hl 2 rfl) ?_
              refine lv_iconst (v := (nI 0)) hx hb d_TC_clear_51 (by decide) ?_
              refine r_put C0 hK hP hD hS 0 rfl rfl i_TC t_TC k_TC n_TC 5 (by decide) wt_92 (fun _ h => h) rfl rfl rfl (Nat.le_of_ble_eq_true rfl) d_TC_clear_52 (fun H locs hP hD hS => ?_)
              have hP : va_P D cls [(h, .inr (0, [.ref an, .ref am, .ref ak, .ref ap, .ref ac, .int (nI 0), .int (nI cs), .int (nI mk), .int (nI lr)])), (ak, .inl (cK, 10, .inr (.inr (.inr (.inr f))))), (an, .inr (1, [.ref cd, .ref cr, .ref cn])), (cd, .inl (cI, 6, .inl (nA g)))] H := hP
              have hD : va_D A [(h, .inr (0, [.ref an, .ref am, .ref ak, .ref ap, .ref ac, .int (nI 0), .int (nI cs), .int (nI mk), .int (nI lr)])), (ak, .inl (cK, 10, .inr (.inr (.inr (.inr f))))), (an, .inr (1, [.ref cd, .ref cr, .ref cn])), (cd, .inl (cI, 6, .inl (nA g)))] := hD
              refine lv_aload_n hx hb d_TC_clear_55 rfl (lv_at hl 2 rfl) ?_
              refine lv_iconst (v := (nI 0)) hx hb d_TC_clear_56 (by decide) ?_
              refine r_put C0 hK hP hD hS 0 rfl rfl i_TC t_TC k_TC n_TC 6 (by decide) wt_93 (fun _ h => h) rfl rfl rfl (Nat.le_of_ble_eq_true rfl) d_TC_clear_57 (fun H locs hP hD hS => ?_)
              have hP : va_P D cls [(h, .inr (0, [.ref an, .ref am, .ref ak, .ref ap, .ref ac, .int (nI 0), .int (nI 0), .int (nI mk), .int (nI lr)])), (ak, .inl (cK, 10, .inr (.inr (.inr (.inr f))))), (an, .inr (1, [.ref cd, .ref cr, .ref cn])), (cd, .inl (cI, 6, .inl (nA g)))] H := hP
              have hD : va_D A [(h, .inr (0, [.ref an, .ref am, .ref ak, .ref ap, .ref ac, .int (nI 0), .int (nI 0), .int (nI mk), .int (nI lr)])), (ak, .inl (cK, 10, .inr (.inr (.inr (.inr f))))), (an, .inr (1, [.ref cd, .ref cr, .ref cn])), (cd, .inl (cI, 6, .inl (nA g)))] := hD
              refine lv_aload_n hx hb d_TC_clear_60 rfl (lv_at hl 2 rfl) ?_
              refine lv_iconst (v := (nI 0)) hx hb d_TC_clear_61 (by decide) ?_
              refine r_put C0 hK hP hD hS 0 rfl rfl i_TC t_TC k_TC n_TC 7 (by decide) wt_94 (fun _ h => h) rfl rfl rfl (Nat.le_of_ble_eq_true rfl) d_TC_clear_62 (fun H locs hP hD hS => ?_)
              have hP : va_P D cls [(h, .inr (0, [.ref an, .ref am, .ref ak, .ref ap, .ref ac, .int (nI 0), .int (nI 0), .int (nI 0), .int (nI lr)])), (ak, .inl (cK, 10, .inr (.inr (.inr (.inr f))))), (an, .inr (1, [.ref cd, .ref cr, .ref cn])), (cd, .inl (cI, 6, .inl (nA g)))] H := hP
              have hD : va_D A [(h, .inr (0, [.ref an, .ref am, .ref ak, .ref ap, .ref ac, .int (nI 0), .int (nI 0), .int (nI 0), .int (nI lr)])), (ak, .inl (cK, 10, .inr (.inr (.inr (.inr f))))), (an, .inr (1, [.ref cd, .ref cr, .ref cn])), (cd, .inl (cI, 6, .inl (nA g)))] := hD
              refine lv_aload_n hx hb d_TC_clear_65 rfl (lv_at hl 2 rfl) ?_
              refine lv_iconst (v := (nI 0)) hx hb d_TC_clear_66 (by decide) ?_
              refine r_put C0 hK hP hD hS 0 rfl rfl i_TC t_TC k_TC n_TC 8 (by decide) wt_95 (fun _ h => h) rfl rfl rfl (Nat.le_of_ble_eq_true rfl) d_TC_clear_67 (fun H locs hP hD hS => ?_)
              have hP : va_P D cls [(h, .inr (0, [.ref an, .ref am, .ref ak, .ref ap, .ref ac, .int (nI 0), .int (nI 0), .int (nI 0), .int (nI 0)])), (ak, .inl (cK, 10, .inr (.inr (.inr (.inr f))))), (an, .inr (1, [.ref cd, .ref cr, .ref cn])), (cd, .inl (cI, 6, .inl (nA g)))] H := hP
              have hD : va_D A [(h, .inr (0, [.ref an, .ref am, .ref ak, .ref ap, .ref ac, .int (nI 0), .int (nI 0), .int (nI 0), .int (nI 0)])), (ak, .inl (cK, 10, .inr (.inr (.inr (.inr f))))), (an, .inr (1, [.ref cd, .ref cr, .ref cn])), (cd, .inl (cI, 6, .inl (nA g)))] := hD
              refine lv_iload_n hx hb d_TC_clear_70 rfl (lv_at hl 1 rfl) ?_
              exact ret_i C0 hr hlk hAe hS (f, g) (⟨rfl, hf, hg⟩) hP hD rfl (Nat.le_of_ble_eq_true rfl) (Nat.le_of_ble_eq_true rfl) d_TC_clear_71
            · refine lv_aload_n hx hb d_TC_clear_34 rfl (lv_at hl 2 rfl) ?_
              refine r_get C0 hK hP 0 rfl rfl i_TC 0 (by decide) wt_87 (fun _ h => h) rfl d_TC_clear_35 ?_
              refine r_get C0 hK hP 2 rfl rfl i_Ch 0 (by decide) wt_32 (fun _ h => h) rfl d_TC_clear_38 ?_
              refine lv_iload_n hx hb d_TC_clear_41 rfl (lv_at hl 0 rfl) ?_
              refine lv_iconst (v := (nI 0)) hx hb d_TC_clear_42 (by decide) ?_
              refine r_astN C0 hK hP hD hS 3 rfl (by omega) (by decide) d_TC_clear_43 (fun H locs hP hD hS => ?_)
              have hP : va_P D cls [(h, .inr (0, [.ref an, .ref am, .ref ak, .ref ap, .ref ac, .int (nI nm), .int (nI cs), .int (nI mk), .int (nI lr)])), (ak, .inl (cK, 10, .inr (.inr (.inr (.inr f))))), (an, .inr (1, [.ref cd, .ref cr, .ref cn])), (cd, .inl (cI, 6, .inl (nA (va_up g i2 0))))] H := hP
              have hD : va_D A [(h, .inr (0, [.ref an, .ref am, .ref ak, .ref ap, .ref ac, .int (nI nm), .int (nI cs), .int (nI mk), .int (nI lr)])), (ak, .inl (cK, 10, .inr (.inr (.inr (.inr f))))), (an, .inr (1, [.ref cd, .ref cr, .ref cn])), (cd, .inl (cI, 6, .inl (nA (va_up g i2 0))))] := hD
              refine lv_iinc (v := (nI (i2 + 1))) (lv' := [(2, .int (nI (i2 + 1))), (1, .int (nI cs)), (0, .ref h)]) hx hb d_TC_clear_44 hl (k := 0) rfl (by exact nI_1 _) (by decide) rfl (fun ls hl => ?_)
              refine lv_goto (tgt := 28) hx hb d_TC_clear_47 (by decide) ?_
              exact ih28 (i2 + 1) (va_up g i2 0) (by omega) (by omega) (up_eq (h := fun _ => 0) hg rfl) _ _ _ hP hD hS (lv_sub hl [0, 1, 2] rfl)
        exact L28 (7) 0 dm (by omega) (by omega) (fun _ h => absurd h (Nat.not_lt_zero _)) _ _ _ hP hD hS (lv_sub hl [0, 1, 2] rfl)
      · refine lv_aload_n hx hb d_TC_clear_13 rfl (lv_at hl 2 rfl) ?_
        refine r_get C0 hK hP 0 rfl rfl i_TC 2 (by decide) wt_89 (fun _ h => h) rfl d_TC_clear_14 ?_
        refine lv_iload_n hx hb d_TC_clear_17 rfl (lv_at hl 0 rfl) ?_
        refine lv_null hx hb d_TC_clear_18 ?_
        refine r_astqN C0 hK hP hD hS 1 2 rfl rfl (by omega) (by decide) d_TC_clear_19 (fun H locs hP hD hS => ?_)
        have hP : va_P D cls [(h, .inr (0, [.ref an, .ref am, .ref ak, .ref ap, .ref ac, .int (nI nm), .int (nI cs), .int (nI mk), .int (nI lr)])), (ak, .inl (cK, 10, .inr (.inr (.inr (.inr (va_up f i none)))))), (an, .inr (1, [.ref cd, .ref cr, .ref cn])), (cd, .inl (cI, 6, .inl (nA dm)))] H := hP
        have hD : va_D A [(h, .inr (0, [.ref an, .ref am, .ref ak, .ref ap, .ref ac, .int (nI nm), .int (nI cs), .int (nI mk), .int (nI lr)])), (ak, .inl (cK, 10, .inr (.inr (.inr (.inr (va_up f i none)))))), (an, .inr (1, [.ref cd, .ref cr, .ref cn])), (cd, .inl (cI, 6, .inl (nA dm)))] := hD
        refine lv_iinc (v := (nI (i + 1))) (lv' := [(2, .int (nI (i + 1))), (1, .int (nI cs)), (0, .ref h)]) hx hb d_TC_clear_20 hl (k := 0) rfl (by exact nI_1 _) (by decide) rfl (fun ls hl => ?_)
        refine lv_goto (tgt := 7) hx hb d_TC_clear_23 (by decide) ?_
        exact ih7 (i + 1) (va_up f i none) (by omega) (by omega) (up_eqO (h := fun _ => none) hf rfl) _ _ _ hP hD hS (lv_sub hl [0, 1, 2] rfl)
  exact L7 (11) 0 kf (by omega) (by omega) (fun _ h => absurd h (Nat.not_lt_zero _)) _ _ _ hP hD hS (lv_sub hl [0, 1, 2] rfl)
