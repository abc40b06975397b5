def itr {α : Type} (f : Nat → α → α) (x : α) : Nat → α
  | 0 => x
  | i + 1 => f i (itr f x i)
def mi (x y : Nat) : Nat := if y < x then y else x
theorem mi_le1 (x y : Nat) : mi x y ≤ x := by unfold mi; split <;> omega
theorem mi_le2 (x y : Nat) : mi x y ≤ y := by unfold mi; split <;> omega
theorem mi_i {x y : Nat} (hx : x < 2147483648) (hy : y < 2147483648) : (if nI y < nI x then nI y else nI x) = nI (mi x y) := by
  unfold mi
  by_cases h : y < x
  · rw [if_pos ((nI_ltI hy hx).mpr h), if_pos h]
  · rw [if_neg (fun q => h ((nI_ltI hy hx).mp q)), if_neg h]
section NR4
variable {p : Program} {l : Launch} {e : Env} {R : Room} {s : State} {m : MethodId} {args : Array Value} {below : List Frame} {meth : Method} {c : Code} {H : Heap} {locs : List Loc} {cells slots : Nat} {Q : State → Prop}
variable {cc : ByteArray} {pc nL : Nat} {ls : Array Slot} {rest : List Value} {own : String}
theorem r_min (C0 : CallFix p m c cc nL s args gt own) {index x y : Nat} (hl : Cond.methodLink own index Lib.Math.min.name ∈ gt) (hls : ls.size = nL) (hf : 1 ≤ R.frames) (hlo : (rest.map fun v => v.category).sum + 13 ≤ R.locals) (hc : cells ≤ R.cells) (hs : slots ≤ R.slots) (hx : x < 2147483648) (hy : y < 2147483648) (hd : decode cc pc = .ok (.invokestatic index, 3))
    (kk : W p l e R s m args below meth c H locs cells slots Q (F0 m (pc + 3) ls (.int (nI (mi x y)) :: rest))) : W p l e R s m args below meth c H locs cells slots Q (F0 m pc ls (.int (nI y) :: .int (nI x) :: rest)) :=
  va_mmin C0.1 C0.2.1 (C0.2.2.1.trans hls.symm) C0.2.2.2.1 (C0.2.2.2.2 _ hl) (C0.2.2.2.2 _ wt_493) (C0.2.2.2.2 _ wt_15) (C0.2.2.2.2 _ wt_494) hf hlo hc hs hd (by rw [mi_i hx hy]; exact kk)
end NR4
def mf (f : Nat → Nat) (k i : Nat) : Nat → Nat := fun j => if k * 8 ≤ j ∧ j < k * 8 + i then 1000000 else f j
theorem mf_0 {f : Nat → Nat} {k : Nat} : mf f k 0 = f := by
  funext j
  unfold mf
  rw [if_neg (by omega)]
theorem mf_s {f : Nat → Nat} {k i : Nat} : va_up (mf f k i) (k * 8 + i) 1000000 = mf f k (i + 1) := by
  funext j
  unfold va_up mf
  by_cases h : j = k * 8 + i
  · rw [if_pos h, if_pos (by omega)]
  · rw [if_neg h]
    by_cases g : k * 8 ≤ j ∧ j < k * 8 + i
    · rw [if_pos g, if_pos (by omega)]
    · rw [if_neg g, if_neg (by omega)]
theorem mf_le {f : Nat → Nat} {k i : Nat} (h : ∀ j, f j ≤ 1000000) : ∀ j, mf f k i j ≤ 1000000 := fun j => by
  unfold mf
  split
  · exact Nat.le_refl _
  · exact h j
def gbF (sp : Nat → Nat) (k : Nat) (f : Nat → Nat) (lo : Nat) : Nat → (Nat → Nat) := itr (fun i g => va_up g (k * 8 + dgt (sp (lo + i)) 0) (mi (g (k * 8 + dgt (sp (lo + i)) 0)) (g ((k + 1) * 8 + dgt (sp (lo + i)) 1) + sp (lo + i) / 2 ^ 6))) f
def gaF (sp bh : Nat → Nat) (k : Nat) (f : Nat → Nat) (lo : Nat) : Nat → (Nat → Nat) × Nat := itr (fun i g => (va_up g.1 ((k + 1) * 8 + dgt (sp (lo + i)) 1) (mi (g.1 ((k + 1) * 8 + dgt (sp (lo + i)) 1)) (g.1 (k * 8 + dgt (sp (lo + i)) 0) + sp (lo + i) / 2 ^ 6)), mi g.2 (g.1 (k * 8 + dgt (sp (lo + i)) 0) + sp (lo + i) / 2 ^ 6 + bh ((k + 1) * 8 + dgt (sp (lo + i)) 1)))) (f, 1000000)
theorem gbF_le {sp f : Nat → Nat} {k lo : Nat} (h : ∀ j, f j ≤ 1000000) : ∀ i j, gbF sp k f lo i j ≤ 1000000
  | 0, j => h j
  | i + 1, j => up_le (gbF_le h i) (Nat.le_trans (mi_le1 _ _) (gbF_le h i _)) j
theorem gaF_le {sp bh f : Nat → Nat} {k lo : Nat} (h : ∀ j, f j ≤ 1000000) : ∀ i, (∀ j, (gaF sp bh k f lo i).1 j ≤ 1000000) ∧ (gaF sp bh k f lo i).2 ≤ 1000000
  | 0 => ⟨h, Nat.le_refl _⟩
  | i + 1 => ⟨up_le (gaF_le h i).1 (Nat.le_trans (mi_le1 _ _) ((gaF_le h i).1 _)), Nat.le_trans (mi_le1 _ _) (gaF_le h i).2⟩
set_option maxHeartbeats 4000000 in
set_option maxRecDepth 100000 in
theorem c_TC_isValue (l : Launch) (D : va_G) (cI : ClassId) (sz : Nat) (x : Int32)  : MetI l y_TC_isValue b_TC_isValue 1 (some .boolean) { frames := 1, cells := 0, slots := 0, locals := 22 } D cI [] sz [] [.int x] (fun (r : Int32) (u : Unit) => r = (bI (decide (nI 0 ≤ x) && decide (x ≤ nI 5)))) (fun u : Unit => []) := by
  refine enter (by decide) (Nat.le_of_ble_eq_true rfl) ?_
  intro p e s m below meth c A ls C0 hr hlk hnm hK hsz hA hAe hP hD hS hl
  have hx := C0.1
  have hb := C0.2.1
  have hl : lv_has ls 1 [(0, .int x)] := hl
  refine lv_iload_n hx hb d_TC_isValue_0 rfl (lv_at hl 0 rfl) ?_
  refine lv_iconst (v := (nI 0)) hx hb d_TC_isValue_1 (by decide) ?_
  refine lv_iconst (v := (nI 5)) hx hb d_TC_isValue_2 (by decide) ?_
  refine call_i (rm := { frames := 0, cells := 0, slots := 0, locals := 0 }) hS hP hD hA (spl_mk (wc := []) (wr := []) [] [] rfl rfl (by decide)) (run_s (n := 3) (As := [.int x, .int (nI 0), .int (nI 5)]) (rest := []) C0 (hK.sub [] rfl) (c_TC_isIn l D cI s.heap.size x (nI 0) (nI 5)) wt_125 wt_1 wt_123 wt_124 (by decide +kernel) ⟨Nat.le_of_ble_eq_true rfl, Nat.le_of_ble_eq_true rfl⟩ rfl hl.1 rfl (Nat.le_of_ble_eq_true rfl) d_TC_isValue_3 ⟨Nat.le_of_ble_eq_true rfl, Nat.le_of_ble_eq_true rfl⟩) (fun r_3 _u3 H locs hw_3 hP hD hS => ?_)
  have hP : va_P D cls [] H := hP
  have hD : va_D A [] := hD
  subst hw_3
  exact ret_i C0 hr hlk hAe hS () rfl hP hD (bI_n _) (Nat.le_of_ble_eq_true rfl) (Nat.le_of_ble_eq_true rfl) d_TC_isValue_6
set_option maxHeartbeats 4000000 in
set_option maxRecDepth 100000 in
theorem c_Ma_makeFar (l : Launch) (D : va_G) (cI : ClassId) (sz : Nat) (ar : Nat) (f : Nat → Nat) (k : Nat) (hk : k ≤ 6) : MetV l y_Ma_makeFar b_Ma_makeFar 3 { frames := 1, cells := 0, slots := 0, locals := 22 } D cI [] sz [(ar, .inl (cI, 56, .inl (nA f)))] [.ref ar, .int (nI k)] (fun (u : Unit) => True) (fun u : Unit => [(ar, .inl (cI, 56, .inl (nA (mf f k 6))))]) := by
  refine enter (by decide) (Nat.le_of_ble_eq_true rfl) ?_
  intro p e s m below meth c A ls C0 hr hlk hnm hK hsz hA hAe hP hD hS hl
  have hx := C0.1
  have hb := C0.2.1
  have hl : lv_has ls 3 [(0, .ref ar), (1, .int (nI k))] := hl
  refine lv_iload_n hx hb d_Ma_makeFar_0 rfl (lv_at hl 1 rfl) ?_
  refine lv_iconst (v := (nI 0)) hx hb d_Ma_makeFar_1 (by decide) ?_
  refine lv_bipush (v := (nI 6)) hx hb d_Ma_makeFar_2 (by decide) ?_
  refine call_i (rm := { frames := 0, cells := 0, slots := 0, locals := 0 }) hS hP hD hA (spl_mk (wc := []) (wr := [(ar, .inl (cI, 56, .inl (nA f)))]) [] [0] rfl rfl (by decide)) (run_sN (n := 3) (As := [.int (nI k), .int (nI 0), .int (nI 6)]) (rest := []) C0 (hK.sub [] rfl) (c_TC_isIn l D cI s.heap.size (nI k) (nI 0) (nI 6)) wt_125 wt_1 wn_503 wt_124 (by decide +kernel) ⟨Nat.le_of_ble_eq_true rfl, Nat.le_of_ble_eq_true rfl⟩ rfl hl.1 rfl (Nat.le_of_ble_eq_true rfl) d_Ma_makeFar_4 ⟨Nat.le_of_ble_eq_true rfl, Nat.le_of_ble_eq_true rfl⟩) (fun r_4 _u4 H locs hw_4 hP hD hS => ?_)
  have hP : va_P D cls [(ar, .inl (cI, 56, .inl (nA f)))] H := hP
  have hD : va_D A [(ar, .inl (cI, 56, .inl (nA f)))] := hD
  subst hw_4
  refine t_eq (y := (bI (decide (k ≤ 6)))) (by rw [nat_in (by omega) (by decide)]) ?_
  refine y_ne (tgt := 11) hx hb d_Ma_makeFar_7 (by decide) (fun c_7 => ?_) (fun c_7 => ?_)
  · refine lv_iconst (v := (nI 0)) hx hb d_Ma_makeFar_11 (by decide) ?_
    refine lv_istore_n (lv' := [(2, .int (nI 0)), (0, .ref ar), (1, .int (nI k))]) hx hb d_Ma_makeFar_12 rfl hl (by decide) rfl (fun ls hl => ?_)
    rw [show f = mf f k 0 from mf_0.symm] at hP hD
    have L13 : ∀ (fuel13 : Nat) (i : Nat), (i ≤ 6) → (6 < i + fuel13) → ∀ (H : Heap) (locs : List Loc) (ls : Array Slot), va_P D cls [(ar, .inl (cI, 56, .inl (nA (mf f k i))))] H → va_D A [(ar, .inl (cI, 56, .inl (nA (mf f k i))))] → va_S A s.heap H locs → lv_has ls 3 [(2, .int (nI i)), (0, .ref ar), (1, .int (nI k))] → W p l e { frames := 1, cells := 0, slots := 0, locals := 22 } s m ([.ref ar, .int (nI k)] : List Value).toArray below meth c H locs 0 0 (MQ below (pstV D [(ar, .inl (cI, 56, .inl (nA f)))] sz (fun (u : Unit) => True) (fun u : Unit => [(ar, .inl (cI, 56, .inl (nA (mf f k 6))))])) ([.ref ar, .int (nI k)] : List Value).toArray s 0 0 A) (F0 m 13 ls []) := by
      intro fuel13
      induction fuel13 with
      | zero => intros; omega
      | succ fuel13 ih13 =>
        intro i hi hfu H locs ls hP hD hS hl
        refine lv_iload_n hx hb d_Ma_makeFar_13 rfl (lv_at hl 0 rfl) ?_
        refine lv_bipush (v := (nI 6)) hx hb d_Ma_makeFar_14 (by decide) ?_
        refine b_ge (tgt := 34) hx hb (by omega) (by decide) d_Ma_makeFar_16 (by decide) (fun c_16 => ?_) (fun c_16 => ?_)
        · obtain rfl : i = 6 := (by omega)
          exact ret_v C0 hr hlk hAe hS () trivial hP hD (Nat.le_of_ble_eq_true rfl) (Nat.le_of_ble_eq_true rfl) d_Ma_makeFar_34
        · refine lv_aload_n hx hb d_Ma_makeFar_19 rfl (lv_at hl 1 rfl) ?_
          refine lv_iload_n hx hb d_Ma_makeFar_20 rfl (lv_at hl 2 rfl) ?_
          refine lv_iload_n hx hb d_Ma_makeFar_21 rfl (lv_at hl 0 rfl) ?_
          refine call_i (rm := { frames := 0, cells := 0, slots := 0, locals := 0 }) hS hP hD hA (spl_mk (wc := []) (wr := [(ar, .inl (cI, 56, .inl (nA (mf f k i))))]) [] [0] rfl rfl (by decide)) (run_s (n := 2) (As := [.int (nI k), .int (nI i)]) (rest := [.ref ar]) C0 (hK.sub [] rfl) (c_Pl_costAt l D cI H.size k i) wt_497 wt_3 wt_495 wt_496 (by decide +kernel) ⟨Nat.le_of_ble_eq_true rfl, Nat.le_of_ble_eq_true rfl⟩ rfl hl.1 rfl (Nat.le_of_ble_eq_true rfl) d_Ma_makeFar_22 ⟨Nat.le_of_ble_eq_true rfl, Nat.le_of_ble_eq_true rfl⟩) (fun r_22 _u22 H locs hw_22 hP hD hS => ?_)
          have hP : va_P D cls [(ar, .inl (cI, 56, .inl (nA (mf f k i))))] H := hP
          have hD : va_D A [(ar, .inl (cI, 56, .inl (nA (mf f k i))))] := hD
          subst hw_22
          refine lv_ldc (v := 1000000) hx hb C0.2.2.2.1 (C0.2.2.2.2 _ wt_499) d_Ma_makeFar_25 ?_
          refine t_eq (y := (nI 1000000)) rfl ?_
          refine r_astN C0 hK hP hD hS 0 rfl (by omega) (by decide) d_Ma_makeFar_27 (fun H locs hP hD hS => ?_)
          have hP : va_P D cls [(ar, .inl (cI, 56, .inl (nA (va_up (mf f k i) (k * 8 + i) 1000000))))] H := hP
          have hD : va_D A [(ar, .inl (cI, 56, .inl (nA (va_up (mf f k i) (k * 8 + i) 1000000))))] := hD
          rw [show (va_up (mf f k i) (k * 8 + i) 1000000) = mf f k (i + 1) from mf_s] at hP hD
          refine lv_iinc (v := (nI (i + 1))) (lv' := [(2, .int (nI (i + 1))), (0, .ref ar), (1, .int (nI k))]) hx hb d_Ma_makeFar_28 hl (k := 0) rfl (by exact nI_1 _) (by decide) rfl (fun ls hl => ?_)
          refine lv_goto (tgt := 13) hx hb d_Ma_makeFar_31 (by decide) ?_
          exact ih13 (i + 1) (by omega) (by omega) _ _ _ hP hD hS (lv_sub hl [0, 1, 2] rfl)
    exact L13 (7) 0 (by omega) (by omega) _ _ _ hP hD hS (lv_sub hl [0, 1, 2] rfl)
  · exact absurd hk (by simp at c_7; omega)
set_option maxHeartbeats 4000000 in
set_option maxRecDepth 100000 in
theorem c_Ma_startAhead (l : Launch) (D : va_G) (cI : ClassId) (sz : Nat) (h : Nat) (kd : Nat) (n : Nat) (w : Nat) (ns : Nat) (hn : Nat) (hq : Nat) (en : Nat) (mo : Nat) (st : Nat) (sr : Nat) (hp : Nat) (po : Nat) (pk : Nat) (pa : Nat) (pb : Nat) (pw : Nat) (ps : Nat) (tm : Nat) (ah : Nat → Nat)  : MetV l y_Ma_startAhead b_Ma_startAhead 2 { frames := 2, cells := 0, slots := 0, locals := 44 } D cI [] sz [(h, .inr (4, [.int (nI kd), .int (nI n), .int (nI w), .int (nI ns), .int (nI hn), .int (nI hq), .int (nI en), .int (nI mo), .ref st, .ref sr])), (hp, .inr (2, [.ref po, .ref pk, .ref pa, .ref pb, .ref pw, .ref ps, .int (nI tm)])), (pa, .inl (cI, 56, .inl (nA ah)))] [.ref h, .ref hp] (fun (u : Unit) => True) (fun u : Unit => [(h, .inr (4, [.int (nI kd), .int (nI n), .int (nI w), .int (nI ns), .int (nI hn), .int (nI hq), .int (nI en), .int (nI mo), .ref st, .ref sr])), (hp, .inr (2, [.ref po, .ref pk, .ref pa, .ref pb, .ref pw, .ref ps, .int (nI tm)])), (pa, .inl (cI, 56, .inl (nA (va_up (mf ah 0 6) 0 0))))]) := by
  refine enter (by decide) (Nat.le_of_ble_eq_true rfl) ?_
  intro p e s m below meth c A ls C0 hr hlk hnm hK hsz hA hAe hP hD hS hl
  have hx := C0.1
  have hb := C0.2.1
  have hl : lv_has ls 2 [(0, .ref h), (1, .ref hp)] := hl
  refine lv_aload_n hx hb d_Ma_startAhead_0 rfl (lv_at hl 1 rfl) ?_
  refine r_get C0 hK hP 1 rfl rfl i_Pl 2 (by decide) wt_66 (fun _ h => h) rfl d_Ma_startAhead_1 ?_
  refine lv_iconst (v := (nI 0)) hx hb d_Ma_startAhead_4 (by decide) ?_
  refine call_v (rm := { frames := 1, cells := 0, slots := 0, locals := 22 }) hS hP hD hA (spl_mk (wc := [(pa, .inl (cI, 56, .inl (nA ah)))]) (wr := [(h, .inr (4, [.int (nI kd), .int (nI n), .int (nI w), .int (nI ns), .int (nI hn), .int (nI hq), .int (nI en), .int (nI mo), .ref st, .ref sr])), (hp, .inr (2, [.ref po, .ref pk, .ref pa, .ref pb, .ref pw, .ref ps, .int (nI tm)]))]) [2] [0, 1] rfl rfl (by decide)) (run_s (n := 2) (As := [.ref pa, .int (nI 0)]) (rest := []) C0 (hK.sub [] rfl) (c_Ma_makeFar l D cI s.heap.size pa ah 0 (by omega)) wt_502 wt_7 wt_500 wt_501 (by decide +kernel) ⟨Nat.le_of_ble_eq_true rfl, Nat.le_of_ble_eq_true rfl⟩ rfl hl.1 rfl (Nat.le_of_ble_eq_true rfl) d_Ma_startAhead_5 ⟨Nat.le_of_ble_eq_true rfl, Nat.le_of_ble_eq_true rfl⟩) (fun _u5 H locs hw_5 hP hD hS => ?_)
  have hP : va_P D cls [(h, .inr (4, [.int (nI kd), .int (nI n), .int (nI w), .int (nI ns), .int (nI hn), .int (nI hq), .int (nI en), .int (nI mo), .ref st, .ref sr])), (hp, .inr (2, [.ref po, .ref pk, .ref pa, .ref pb, .ref pw, .ref ps, .int (nI tm)])), (pa, .inl (cI, 56, .inl (nA (mf ah 0 6))))] H := hP
  have hD : va_D A [(h, .inr (4, [.int (nI kd), .int (nI n), .int (nI w), .int (nI ns), .int (nI hn), .int (nI hq), .int (nI en), .int (nI mo), .ref st, .ref sr])), (hp, .inr (2, [.ref po, .ref pk, .ref pa, .ref pb, .ref pw, .ref ps, .int (nI tm)])), (pa, .inl (cI, 56, .inl (nA (mf ah 0 6))))] := hD
  refine lv_aload_n hx hb d_Ma_startAhead_8 rfl (lv_at hl 1 rfl) ?_
  refine r_get C0 hK hP 1 rfl rfl i_Pl 2 (by decide) wt_66 (fun _ h => h) rfl d_Ma_startAhead_9 ?_
  refine lv_iconst (v := (nI 0)) hx hb d_Ma_startAhead_12 (by decide) ?_
  refine lv_iconst (v := (nI 0)) hx hb d_Ma_startAhead_13 (by decide) ?_
  refine r_astN C0 hK hP hD hS 2 rfl (by omega) (by decide) d_Ma_startAhead_14 (fun H locs hP hD hS => ?_)
  have hP : va_P D cls [(h, .inr (4, [.int (nI kd), .int (nI n), .int (nI w), .int (nI ns), .int (nI hn), .int (nI hq), .int (nI en), .int (nI mo), .ref st, .ref sr])), (hp, .inr (2, [.ref po, .ref pk, .ref pa, .ref pb, .ref pw, .ref ps, .int (nI tm)])), (pa, .inl (cI, 56, .inl (nA (va_up (mf ah 0 6) 0 0))))] H := hP
  have hD : va_D A [(h, .inr (4, [.int (nI kd), .int (nI n), .int (nI w), .int (nI ns), .int (nI hn), .int (nI hq), .int (nI en), .int (nI mo), .ref st, .ref sr])), (hp, .inr (2, [.ref po, .ref pk, .ref pa, .ref pb, .ref pw, .ref ps, .int (nI tm)])), (pa, .inl (cI, 56, .inl (nA (va_up (mf ah 0 6) 0 0))))] := hD
  exact ret_v C0 hr hlk hAe hS () trivial hP hD (Nat.le_of_ble_eq_true rfl) (Nat.le_of_ble_eq_true rfl) d_Ma_startAhead_15
set_option maxHeartbeats 4000000 in
set_option maxRecDepth 100000 in
theorem c_Ma_goBehind (l : Launch) (D : va_G) (cI : ClassId) (sz : Nat) (h : Nat) (kd : Nat) (n : Nat) (w : Nat) (ns : Nat) (hn : Nat) (hq : Nat) (en : Nat) (mo : Nat) (st : Nat) (sr : Nat) (hp : Nat) (po : Nat) (pk : Nat) (pa : Nat) (pb : Nat) (pw : Nat) (ps : Nat) (tm : Nat) (sp : Nat → Nat) (sa : Nat → Nat) (bh : Nat → Nat) (k : Nat) (v : Nat) (hsp : ∀ j, sp j < 8192) (hsa : ∀ j, j < 6 → sa j ≤ sa (j + 1)) (hs6 : ∀ j, j ≤ 6 → sa j ≤ 30) (hk : k < 6) (hv : v < 6) (hbh : ∀ j, bh j ≤ 1000000) : MetV l y_Ma_goBehind b_Ma_goBehind 8 { frames := 2, cells := 0, slots := 0, locals := 42 } D cI [] sz [(h, .inr (4, [.int (nI kd), .int (nI n), .int (nI w), .int (nI ns), .int (nI hn), .int (nI hq), .int (nI en), .int (nI mo), .ref st, .ref sr])), (st, .inl (cI, 30, .inl (nA sp))), (sr, .inl (cI, 7, .inl (nA sa))), (hp, .inr (2, [.ref po, .ref pk, .ref pa, .ref pb, .ref pw, .ref ps, .int (nI tm)])), (pb, .inl (cI, 56, .inl (nA bh)))] [.ref h, .int (nI k), .int (nI v), .ref hp] (fun (u : Unit) => True) (fun u : Unit => [(h, .inr (4, [.int (nI kd), .int (nI n), .int (nI w), .int (nI ns), .int (nI hn), .int (nI hq), .int (nI en), .int (nI mo), .ref st, .ref sr])), (st, .inl (cI, 30, .inl (nA sp))), (sr, .inl (cI, 7, .inl (nA sa))), (hp, .inr (2, [.ref po, .ref pk, .ref pa, .ref pb, .ref pw, .ref ps, .int (nI tm)])), (pb, .inl (cI, 56, .inl (nA (gbF sp k bh (sa v) (sa (v + 1) - sa v)))))]) := by
  refine enter (by decide) (Nat.le_of_ble_eq_true rfl) ?_
  intro p e s m below meth c A ls C0 hr hlk hnm hK hsz hA hAe hP hD hS hl
  have hx := C0.1
  have hb := C0.2.1
  have hl : lv_has ls 8 [(0, .ref h), (1, .int (nI k)), (2, .int (nI v)), (3, .ref hp)] := hl
  refine lv_iload_n hx hb d_Ma_goBehind_0 rfl (lv_at hl 1 rfl) ?_
  refine lv_iconst (v := (nI 0)) hx hb d_Ma_goBehind_1 (by decide) ?_
  refine lv_iconst (v := (nI 5)) hx hb d_Ma_goBehind_2 (by decide) ?_
  refine call_i (rm := { frames := 0, cells := 0, slots := 0, locals := 0 }) hS hP hD hA (spl_mk (wc := []) (wr := [(h, .inr (4, [.int (nI kd), .int (nI n), .int (nI w), .int (nI ns), .int (nI hn), .int (nI hq), .int (nI en), .int (nI mo), .ref st, .ref sr])), (st, .inl (cI, 30, .inl (nA sp))), (sr, .inl (cI, 7, .inl (nA sa))), (hp, .inr (2, [.ref po, .ref pk, .ref pa, .ref pb, .ref pw, .ref ps, .int (nI tm)])), (pb, .inl (cI, 56, .inl (nA bh)))]) [] [0, 1, 2, 3, 4] rfl rfl (by decide)) (run_sN (n := 3) (As := [.int (nI k), .int (nI 0), .int (nI 5)]) (rest := []) C0 (hK.sub [] rfl) (c_TC_isIn l D cI s.heap.size (nI k) (nI 0) (nI 5)) wt_125 wt_1 wn_503 wt_124 (by decide +kernel) ⟨Nat.le_of_ble_eq_true rfl, Nat.le_of_ble_eq_true rfl⟩ rfl hl.1 rfl (Nat.le_of_ble_eq_true rfl) d_Ma_goBehind_3 ⟨Nat.le_of_ble_eq_true rfl, Nat.le_of_ble_eq_true rfl⟩) (fun r_3 _u3 H locs hw_3 hP hD hS => ?_)
  have hP : va_P D cls [(h, .inr (4, [.int (nI kd), .int (nI n), .int (nI w), .int (nI ns), .int (nI hn), .int (nI hq), .int (nI en), .int (nI mo), .ref st, .ref sr])), (st, .inl (cI, 30, .inl (nA sp))), (sr, .inl (cI, 7, .inl (nA sa))), (hp, .inr (2, [.ref po, .ref pk, .ref pa, .ref pb, .ref pw, .ref ps, .int (nI tm)])), (pb, .inl (cI, 56, .inl (nA bh)))] H := hP
  have hD : va_D A [(h, .inr (4, [.int (nI kd), .int (nI n), .int (nI w), .int (nI ns), .int (nI hn), .int (nI hq), .int (nI en), .int (nI mo), .ref st, .ref sr])), (st, .inl (cI, 30, .inl (nA sp))), (sr, .inl (cI, 7, .inl (nA sa))), (hp, .inr (2, [.ref po, .ref pk, .ref pa, .ref pb, .ref pw, .ref ps, .int (nI tm)])), (pb, .inl (cI, 56, .inl (nA bh)))] := hD
  subst hw_3
  refine t_eq (y := (bI (decide (k ≤ 5)))) (by rw [nat_in (by omega) (by decide)]) ?_
  refine y_eq (tgt := 16) hx hb d_Ma_goBehind_6 (by decide) (fun c_6 => ?_) (fun c_6 => ?_)
  · exact absurd hk (by simp at c_6; omega)
  · refine lv_iload_n hx hb d_Ma_goBehind_9 rfl (lv_at hl 2 rfl) ?_
    refine call_i (rm := { frames := 1, cells := 0, slots := 0, locals := 22 }) hS hP hD hA (spl_mk (wc := []) (wr := [(h, .inr (4, [.int (nI kd), .int (nI n), .int (nI w), .int (nI ns), .int (nI hn), .int (nI hq), .int (nI en), .int (nI mo), .ref st, .ref sr])), (st, .inl (cI, 30, .inl (nA sp))), (sr, .inl (cI, 7, .inl (nA sa))), (hp, .inr (2, [.ref po, .ref pk, .ref pa, .ref pb, .ref pw, .ref ps, .int (nI tm)])), (pb, .inl (cI, 56, .inl (nA bh)))]) [] [0, 1, 2, 3, 4] rfl rfl (by decide)) (run_sN (n := 1) (As := [.int (nI v)]) (rest := []) C0 (hK.sub [] rfl) (c_TC_isValue l D cI H.size (nI v)) wt_221 wt_1 wn_267 wt_220 (by decide +kernel) ⟨Nat.le_of_ble_eq_true rfl, Nat.le_of_ble_eq_true rfl⟩ rfl hl.1 rfl (Nat.le_of_ble_eq_true rfl) d_Ma_goBehind_10 ⟨Nat.le_of_ble_eq_true rfl, Nat.le_of_ble_eq_true rfl⟩) (fun r_10 _u10 H locs hw_10 hP hD hS => ?_)
    have hP : va_P D cls [(h, .inr (4, [.int (nI kd), .int (nI n), .int (nI w), .int (nI ns), .int (nI hn), .int (nI hq), .int (nI en), .int (nI mo), .ref st, .ref sr])), (st, .inl (cI, 30, .inl (nA sp))), (sr, .inl (cI, 7, .inl (nA sa))), (hp, .inr (2, [.ref po, .ref pk, .ref pa, .ref pb, .ref pw, .ref ps, .int (nI tm)])), (pb, .inl (cI, 56, .inl (nA bh)))] H := hP
    have hD : va_D A [(h, .inr (4, [.int (nI kd), .int (nI n), .int (nI w), .int (nI ns), .int (nI hn), .int (nI hq), .int (nI en), .int (nI mo), .ref st, .ref sr])), (st, .inl (cI, 30, .inl (nA sp))), (sr, .inl (cI, 7, .inl (nA sa))), (hp, .inr (2, [.ref po, .ref pk, .ref pa, .ref pb, .ref pw, .ref ps, .int (nI tm)])), (pb, .inl (cI, 56, .inl (nA bh)))] := hD
    subst hw_10
    refine t_eq (y := (bI (decide (v ≤ 5)))) (by rw [nat_in (by omega) (by decide)]) ?_
    refine y_ne (tgt := 17) hx hb d_Ma_goBehind_13 (by decide) (fun c_13 => ?_) (fun c_13 => ?_)
    · refine lv_aload_n hx hb d_Ma_goBehind_17 rfl (lv_at hl 0 rfl) ?_
      refine r_get C0 hK hP 0 rfl rfl i_Ma 9 (by decide) wt_240 (fun _ h => h) rfl d_Ma_goBehind_18 ?_
      refine lv_iload_n hx hb d_Ma_goBehind_21 rfl (lv_at hl 2 rfl) ?_
      refine r_ald C0 hK hP 2 rfl (by omega) (by decide) d_Ma_goBehind_22 ?_
      refine t_eq (y := (nI (sa v))) rfl ?_
      refine lv_istore (lv' := [(4, .int (nI (sa v))), (0, .ref h), (1, .int (nI k)), (2, .int (nI v)), (3, .ref hp)]) hx hb d_Ma_goBehind_23 hl (by decide) rfl (fun ls hl => ?_)
      have hv1 := hsa v (by omega)
      have hv2 := hs6 (v + 1) (by omega)
      have hl : lv_has ls 8 [(4, .int (nI (sa v + 0))), (0, .ref h), (1, .int (nI k)), (2, .int (nI v)), (3, .ref hp)] := by rw [show sa v + 0 = sa v from rfl]; exact hl
      rw [show bh = gbF sp k bh (sa v) 0 from rfl] at hP hD
      have L25 : ∀ (fuel25 : Nat) (i : Nat), (i ≤ sa (v + 1) - sa v) → (sa (v + 1) - sa v < i + fuel25) → ∀ (H : Heap) (locs : List Loc) (ls : Array Slot), va_P D cls [(h, .inr (4, [.int (nI kd), .int (nI n), .int (nI w), .int (nI ns), .int (nI hn), .int (nI hq), .int (nI en), .int (nI mo), .ref st, .ref sr])), (st, .inl (cI, 30, .inl (nA sp))), (sr, .inl (cI, 7, .inl (nA sa))), (hp, .inr (2, [.ref po, .ref pk, .ref pa, .ref pb, .ref pw, .ref ps, .int (nI tm)])), (pb, .inl (cI, 56, .inl (nA (gbF sp k bh (sa v) i))))] H → va_D A [(h, .inr (4, [.int (nI kd), .int (nI n), .int (nI w), .int (nI ns), .int (nI hn), .int (nI hq), .int (nI en), .int (nI mo), .ref st, .ref sr])), (st, .inl (cI, 30, .inl (nA sp))), (sr, .inl (cI, 7, .inl (nA sa))), (hp, .inr (2, [.ref po, .ref pk, .ref pa, .ref pb, .ref pw, .ref ps, .int (nI tm)])), (pb, .inl (cI, 56, .inl (nA (gbF sp k bh (sa v) i))))] → va_S A s.heap H locs → lv_has ls 8 [(4, .int (nI (sa v + i))), (0, .ref h), (1, .int (nI k)), (2, .int (nI v)), (3, .ref hp)] → W p l e { frames := 2, cells := 0, slots := 0, locals := 42 } s m ([.ref h, .int (nI k), .int (nI v), .ref hp] : List Value).toArray below meth c H locs 0 0 (MQ below (pstV D [(h, .inr (4, [.int (nI kd), .int (nI n), .int (nI w), .int (nI ns), .int (nI hn), .int (nI hq), .int (nI en), .int (nI mo), .ref st, .ref sr])), (st, .inl (cI, 30, .inl (nA sp))), (sr, .inl (cI, 7, .inl (nA sa))), (hp, .inr (2, [.ref po, .ref pk, .ref pa, .ref pb, .ref pw, .ref ps, .int (nI tm)])), (pb, .inl (cI, 56, .inl (nA bh)))] sz (fun (u : Unit) => True) (fun u : Unit => [(h, .inr (4, [.int (nI kd), .int (nI n), .int (nI w), .int (nI ns), .int (nI hn), .int (nI hq), .int (nI en), .int (nI mo), .ref st, .ref sr])), (st, .inl (cI, 30, .inl (nA sp))), (sr, .inl (cI, 7, .inl (nA sa))), (hp, .inr (2, [.ref po, .ref pk, .ref pa, .ref pb, .ref pw, .ref ps, .int (nI tm)])), (pb, .inl (cI, 56, .inl (nA (gbF sp k bh (sa v) (sa (v + 1) - sa v)))))])) ([.ref h, .int (nI k), .int (nI v), .ref hp] : List Value).toArray s 0 0 A) (F0 m 25 ls []) := by
        intro fuel25
        induction fuel25 with
        | zero => intros; omega
        | succ fuel25 ih25 =>
          intro i hi hfu H locs ls hP hD hS hl
          refine lv_iload hx hb d_Ma_goBehind_25 (lv_at hl 0 rfl) ?_
          refine lv_aload_n hx hb d_Ma_goBehind_27 rfl (lv_at hl 1 rfl) ?_
          refine r_get C0 hK hP 0 rfl rfl i_Ma 9 (by decide) wt_240 (fun _ h => h) rfl d_Ma_goBehind_28 ?_
          refine lv_iload_n hx hb d_Ma_goBehind_31 rfl (lv_at hl 3 rfl) ?_
          refine lv_iconst (v := (nI 1)) hx hb d_Ma_goBehind_32 (by decide) ?_
          refine lv_iadd hx hb d_Ma_goBehind_33 ?_
          refine t_eq (y := (nI (v + 1))) (nI_add _ _) ?_
          refine r_ald C0 hK hP 2 rfl (by omega) (by decide) d_Ma_goBehind_34 ?_
          refine t_eq (y := (nI (sa (v + 1)))) rfl ?_
          refine b_ge (tgt := 126) hx hb (by omega) (by omega) d_Ma_goBehind_35 (by decide) (fun c_35 => ?_) (fun c_35 => ?_)
          · have hie : i = sa (v + 1) - sa v := by omega
            rw [hie] at hP hD
            exact ret_v C0 hr hlk hAe hS () trivial hP hD (Nat.le_of_ble_eq_true rfl) (Nat.le_of_ble_eq_true rfl) d_Ma_goBehind_126
          · refine lv_iload hx hb d_Ma_goBehind_38 (lv_at hl 0 rfl) ?_
            refine lv_bipush (v := (nI 30)) hx hb d_Ma_goBehind_40 (by decide) ?_
            refine b_ge (tgt := 126) hx hb (by omega) (by decide) d_Ma_goBehind_42 (by decide) (fun c_42 => ?_) (fun c_42 => ?_)
            · have hie : i = sa (v + 1) - sa v := by omega
              rw [hie] at hP hD
              exact ret_v C0 hr hlk hAe hS () trivial hP hD (Nat.le_of_ble_eq_true rfl) (Nat.le_of_ble_eq_true rfl) d_Ma_goBehind_126
            · have hs1 := hsp (sa v + i)
              have hd0 := dgt_lt (sp (sa v + i)) 0
              have hd1 := dgt_lt (sp (sa v + i)) 1
              have hq6 : sp (sa v + i) / 2 ^ 6 < 128 := by omega
              have hle := gbF_le (sp := sp) (k := k) (lo := sa v) hbh i
              have hf1 := hle (k * 8 + dgt (sp (sa v + i)) 0)
              have hf2 := hle ((k + 1) * 8 + dgt (sp (sa v + i)) 1)
              refine lv_iload_n hx hb d_Ma_goBehind_45 rfl (lv_at hl 2 rfl) ?_
              refine lv_aload_n hx hb d_Ma_goBehind_46 rfl (lv_at hl 1 rfl) ?_
              refine r_get C0 hK hP 0 rfl rfl i_Ma 8 (by decide) wt_239 (fun _ h => h) rfl d_Ma_goBehind_47 ?_
              refine lv_iload hx hb d_Ma_goBehind_50 (lv_at hl 0 rfl) ?_
              refine r_ald C0 hK hP 1 rfl (by omega) (by decide) d_Ma_goBehind_52 ?_
              refine t_eq (y := (nI (sp (sa v + i)))) rfl ?_
              refine lv_iconst (v := (nI 0)) hx hb d_Ma_goBehind_53 (by decide) ?_
              refine call_i (rm := { frames := 0, cells := 0, slots := 0, locals := 0 }) hS hP hD hA (spl_mk (wc := []) (wr := [(h, .inr (4, [.int (nI kd), .int (nI n), .int (nI w), .int (nI ns), .int (nI hn), .int (nI hq), .int (nI en), .int (nI mo), .ref st, .ref sr])), (st, .inl (cI, 30, .inl (nA sp))), (sr, .inl (cI, 7, .inl (nA sa))), (hp, .inr (2, [.ref po, .ref pk, .ref pa, .ref pb, .ref pw, .ref ps, .int (nI tm)])), (pb, .inl (cI, 56, .inl (nA (gbF sp k bh (sa v) i))))]) [] [0, 1, 2, 3, 4] rfl rfl (by decide)) (run_sN (n := 2) (As := [.int (nI (sp (sa v + i))), .int (nI 0)]) (rest := [.int (nI k)]) C0 (hK.sub [] rfl) (c_TC_digit l D cI H.size (sp (sa v + i)) 0 (by omega) (by omega)) wt_140 wt_1 wn_508 wt_139 (by decide +kernel) ⟨Nat.le_of_ble_eq_true rfl, Nat.le_of_ble_eq_true rfl⟩ rfl hl.1 rfl (Nat.le_of_ble_eq_true rfl) d_Ma_goBehind_54 ⟨Nat.le_of_ble_eq_true rfl, Nat.le_of_ble_eq_true rfl⟩) (fun r_54 _u54 H locs hw_54 hP hD hS => ?_)
              have hP : va_P D cls [(h, .inr (4, [.int (nI kd), .int (nI n), .int (nI w), .int (nI ns), .int (nI hn), .int (nI hq), .int (nI en), .int (nI mo), .ref st, .ref sr])), (st, .inl (cI, 30, .inl (nA sp))), (sr, .inl (cI, 7, .inl (nA sa))), (hp, .inr (2, [.ref po, .ref pk, .ref pa, .ref pb, .ref pw, .ref ps, .int (nI tm)])), (pb, .inl (cI, 56, .inl (nA (gbF sp k bh (sa v) i))))] H := hP
              have hD : va_D A [(h, .inr (4, [.int (nI kd), .int (nI n), .int (nI w), .int (nI ns), .int (nI hn), .int (nI hq), .int (nI en), .int (nI mo), .ref st, .ref sr])), (st, .inl (cI, 30, .inl (nA sp))), (sr, .inl (cI, 7, .inl (nA sa))), (hp, .inr (2, [.ref po, .ref pk, .ref pa, .ref pb, .ref pw, .ref ps, .int (nI tm)])), (pb, .inl (cI, 56, .inl (nA (gbF sp k bh (sa v) i))))] := hD
              subst hw_54
              have hd_54 := dgt_lt (sp (sa v + i)) 0
              refine call_i (rm := { frames := 0, cells := 0, slots := 0, locals := 0 }) hS hP hD hA (spl_mk (wc := []) (wr := [(h, .inr (4, [.int (nI kd), .int (nI n), .int (nI w), .int (nI ns), .int (nI hn), .int (nI hq), .int (nI en), .int (nI mo), .ref st, .ref sr])), (st, .inl (cI, 30, .inl (nA sp))), (sr, .inl (cI, 7, .inl (nA sa))), (hp, .inr (2, [.ref po, .ref pk, .ref pa, .ref pb, .ref pw, .ref ps, .int (nI tm)])), (pb, .inl (cI, 56, .inl (nA (gbF sp k bh (sa v) i))))]) [] [0, 1, 2, 3, 4] rfl rfl (by decide)) (run_s (n := 2) (As := [.int (nI k), .int (nI (dgt (sp (sa v + i)) 0))]) (rest := []) C0 (hK.sub [] rfl) (c_Pl_costAt l D cI H.size k (dgt (sp (sa v + i)) 0)) wt_497 wt_3 wt_495 wt_496 (by decide +kernel) ⟨Nat.le_of_ble_eq_true rfl, Nat.le_of_ble_eq_true rfl⟩ rfl hl.1 rfl (Nat.le_of_ble_eq_true rfl) d_Ma_goBehind_57 ⟨Nat.le_of_ble_eq_true rfl, Nat.le_of_ble_eq_true rfl⟩) (fun r_57 _u57 H locs hw_57 hP hD hS => ?_)
              have hP : va_P D cls [(h, .inr (4, [.int (nI kd), .int (nI n), .int (nI w), .int (nI ns), .int (nI hn), .int (nI hq), .int (nI en), .int (nI mo), .ref st, .ref sr])), (st, .inl (cI, 30, .inl (nA sp))), (sr, .inl (cI, 7, .inl (nA sa))), (hp, .inr (2, [.ref po, .ref pk, .ref pa, .ref pb, .ref pw, .ref ps, .int (nI tm)])), (pb, .inl (cI, 56, .inl (nA (gbF sp k bh (sa v) i))))] H := hP
              have hD : va_D A [(h, .inr (4, [.int (nI kd), .int (nI n), .int (nI w), .int (nI ns), .int (nI hn), .int (nI hq), .int (nI en), .int (nI mo), .ref st, .ref sr])), (st, .inl (cI, 30, .inl (nA sp))), (sr, .inl (cI, 7, .inl (nA sa))), (hp, .inr (2, [.ref po, .ref pk, .ref pa, .ref pb, .ref pw, .ref ps, .int (nI tm)])), (pb, .inl (cI, 56, .inl (nA (gbF sp k bh (sa v) i))))] := hD
              subst hw_57
              refine lv_istore (lv' := [(5, .int (nI (k * 8 + (dgt (sp (sa v + i)) 0)))), (4, .int (nI (sa v + i))), (0, .ref h), (1, .int (nI k)), (2, .int (nI v)), (3, .ref hp)]) hx hb d_Ma_goBehind_60 hl (by decide) rfl (fun ls hl => ?_)
              refine lv_iload_n hx hb d_Ma_goBehind_62 rfl (lv_at hl 3 rfl) ?_
              refine lv_iconst (v := (nI 1)) hx hb d_Ma_goBehind_63 (by decide) ?_
              refine lv_iadd hx hb d_Ma_goBehind_64 ?_
              refine t_eq (y := (nI (k + 1))) (nI_add _ _) ?_
              refine lv_aload_n hx hb d_Ma_goBehind_65 rfl (lv_at hl 2 rfl) ?_
              refine r_get C0 hK hP 0 rfl rfl i_Ma 8 (by decide) wt_239 (fun _ h => h) rfl d_Ma_goBehind_66 ?_
              refine lv_iload hx hb d_Ma_goBehind_69 (lv_at hl 1 rfl) ?_
              refine r_ald C0 hK hP 1 rfl (by omega) (by decide) d_Ma_goBehind_71 ?_
              refine t_eq (y := (nI (sp (sa v + i)))) rfl ?_
              refine lv_iconst (v := (nI 1)) hx hb d_Ma_goBehind_72 (by decide) ?_
              refine call_i (rm := { frames := 0, cells := 0, slots := 0, locals := 0 }) hS hP hD hA (spl_mk (wc := []) (wr := [(h, .inr (4, [.int (nI kd), .int (nI n), .int (nI w), .int (nI ns), .int (nI hn), .int (nI hq), .int (nI en), .int (nI mo), .ref st, .ref sr])), (st, .inl (cI, 30, .inl (nA sp))), (sr, .inl (cI, 7, .inl (nA sa))), (hp, .inr (2, [.ref po, .ref pk, .ref pa, .ref pb, .ref pw, .ref ps, .int (nI tm)])), (pb, .inl (cI, 56, .inl (nA (gbF sp k bh (sa v) i))))]) [] [0, 1, 2, 3, 4] rfl rfl (by decide)) (run_sN (n := 2) (As := [.int (nI (sp (sa v + i))), .int (nI 1)]) (rest := [.int (nI (k + 1))]) C0 (hK.sub [] rfl) (c_TC_digit l D cI H.size (sp (sa v + i)) 1 (by omega) (by omega)) wt_140 wt_1 wn_508 wt_139 (by decide +kernel) ⟨Nat.le_of_ble_eq_true rfl, Nat.le_of_ble_eq_true rfl⟩ rfl hl.1 rfl (Nat.le_of_ble_eq_true rfl) d_Ma_goBehind_73 ⟨Nat.le_of_ble_eq_true rfl, Nat.le_of_ble_eq_true rfl⟩) (fun r_73 _u73 H locs hw_73 hP hD hS => ?_)
              have hP : va_P D cls [(h, .inr (4, [.int (nI kd), .int (nI n), .int (nI w), .int (nI ns), .int (nI hn), .int (nI hq), .int (nI en), .int (nI mo), .ref st, .ref sr])), (st, .inl (cI, 30, .inl (nA sp))), (sr, .inl (cI, 7, .inl (nA sa))), (hp, .inr (2, [.ref po, .ref pk, .ref pa, .ref pb, .ref pw, .ref ps, .int (nI tm)])), (pb, .inl (cI, 56, .inl (nA (gbF sp k bh (sa v) i))))] H := hP
              have hD : va_D A [(h, .inr (4, [.int (nI kd), .int (nI n), .int (nI w), .int (nI ns), .int (nI hn), .int (nI hq), .int (nI en), .int (nI mo), .ref st, .ref sr])), (st, .inl (cI, 30, .inl (nA sp))), (sr, .inl (cI, 7, .inl (nA sa))), (hp, .inr (2, [.ref po, .ref pk, .ref pa, .ref pb, .ref pw, .ref ps, .int (nI tm)])), (pb, .inl (cI, 56, .inl (nA (gbF sp k bh (sa v) i))))] := hD
              subst hw_73
              have hd_73 := dgt_lt (sp (sa v + i)) 1
              refine call_i (rm := { frames := 0, cells := 0, slots := 0, locals := 0 }) hS hP hD hA (spl_mk (wc := []) (wr := [(h, .inr (4, [.int (nI kd), .int (nI n), .int (nI w), .int (nI ns), .int (nI hn), .int (nI hq), .int (nI en), .int (nI mo), .ref st, .ref sr])), (st, .inl (cI, 30, .inl (nA sp))), (sr, .inl (cI, 7, .inl (nA sa))), (hp, .inr (2, [.ref po, .ref pk, .ref pa, .ref pb, .ref pw, .ref ps, .int (nI tm)])), (pb, .inl (cI, 56, .inl (nA (gbF sp k bh (sa v) i))))]) [] [0, 1, 2, 3, 4] rfl rfl (by decide)) (run_s (n := 2) (As := [.int (nI (k + 1)), .int (nI (dgt (sp (sa v + i)) 1))]) (rest := []) C0 (hK.sub [] rfl) (c_Pl_costAt l D cI H.size (k + 1) (dgt (sp (sa v + i)) 1)) wt_497 wt_3 wt_495 wt_496 (by decide +kernel) ⟨Nat.le_of_ble_eq_true rfl, Nat.le_of_ble_eq_true rfl⟩ rfl hl.1 rfl (Nat.le_of_ble_eq_true rfl) d_Ma_goBehind_76 ⟨Nat.le_of_ble_eq_true rfl, Nat.le_of_ble_eq_true rfl⟩) (fun r_76 _u76 H locs hw_76 hP hD hS => ?_)
              have hP : va_P D cls [(h, .inr (4, [.int (nI kd), .int (nI n), .int (nI w), .int (nI ns), .int (nI hn), .int (nI hq), .int (nI en), .int (nI mo), .ref st, .ref sr])), (st, .inl (cI, 30, .inl (nA sp))), (sr, .inl (cI, 7, .inl (nA sa))), (hp, .inr (2, [.ref po, .ref pk, .ref pa, .ref pb, .ref pw, .ref ps, .int (nI tm)])), (pb, .inl (cI, 56, .inl (nA (gbF sp k bh (sa v) i))))] H := hP
              have hD : va_D A [(h, .inr (4, [.int (nI kd), .int (nI n), .int (nI w), .int (nI ns), .int (nI hn), .int (nI hq), .int (nI en), .int (nI mo), .ref st, .ref sr])), (st, .inl (cI, 30, .inl (nA sp))), (sr, .inl (cI, 7, .inl (nA sa))), (hp, .inr (2, [.ref po, .ref pk, .ref pa, .ref pb, .ref pw, .ref ps, .int (nI tm)])), (pb, .inl (cI, 56, .inl (nA (gbF sp k bh (sa v) i))))] := hD
              subst hw_76
              refine lv_istore (lv' := [(6, .int (nI ((k + 1) * 8 + (dgt (sp (sa v + i)) 1)))), (5, .int (nI (k * 8 + (dgt (sp (sa v + i)) 0)))), (4, .int (nI (sa v + i))), (0, .ref h), (1, .int (nI k)), (2, .int (nI v)), (3, .ref hp)]) hx hb d_Ma_goBehind_79 hl (by decide) rfl (fun ls hl => ?_)
              refine lv_aload_n hx hb d_Ma_goBehind_81 rfl (lv_at hl 6 rfl) ?_
              refine r_get C0 hK hP 3 rfl rfl i_Pl 3 (by decide) wt_68 (fun _ h => h) rfl d_Ma_goBehind_82 ?_
              refine lv_iload hx hb d_Ma_goBehind_85 (lv_at hl 0 rfl) ?_
              refine r_ald C0 hK hP 4 rfl (by omega) (by decide) d_Ma_goBehind_87 ?_
              refine t_eq (y := (nI ((gbF sp k bh (sa v) i) ((k + 1) * 8 + (dgt (sp (sa v + i)) 1))))) rfl ?_
              refine lv_aload_n hx hb d_Ma_goBehind_88 rfl (lv_at hl 3 rfl) ?_
              refine r_get C0 hK hP 0 rfl rfl i_Ma 8 (by decide) wt_239 (fun _ h => h) rfl d_Ma_goBehind_89 ?_
              refine lv_iload hx hb d_Ma_goBehind_92 (lv_at hl 2 rfl) ?_
              refine r_ald C0 hK hP 1 rfl (by omega) (by decide) d_Ma_goBehind_94 ?_
              refine t_eq (y := (nI (sp (sa v + i)))) rfl ?_
              refine lv_bipush (v := (nI 6)) hx hb d_Ma_goBehind_95 (by decide) ?_
              refine lv_iushr (v := (nI ((sp (sa v + i)) / 2 ^ 6))) hx hb d_Ma_goBehind_97 (m_ushr (by omega) (by decide)) ?_
              refine lv_iadd hx hb d_Ma_goBehind_98 ?_
              refine t_eq (y := (nI (((gbF sp k bh (sa v) i) ((k + 1) * 8 + (dgt (sp (sa v + i)) 1))) + ((sp (sa v + i)) / 2 ^ 6)))) (nI_add _ _) ?_
              refine lv_istore (lv' := [(7, .int (nI (((gbF sp k bh (sa v) i) ((k + 1) * 8 + (dgt (sp (sa v + i)) 1))) + ((sp (sa v + i)) / 2 ^ 6)))), (6, .int (nI ((k + 1) * 8 + (dgt (sp (sa v + i)) 1)))), (5, .int (nI (k * 8 + (dgt (sp (sa v + i)) 0)))), (4, .int (nI (sa v + i))), (0, .ref h), (1, .int (nI k)), (2, .int (nI v)), (3, .ref hp)]) hx hb d_Ma_goBehind_99 hl (by decide) rfl (fun ls hl => ?_)
              refine lv_aload_n hx hb d_Ma_goBehind_101 rfl (lv_at hl 7 rfl) ?_
              refine r_get C0 hK hP 3 rfl rfl i_Pl 3 (by decide) wt_68 (fun _ h => h) rfl d_Ma_goBehind_102 ?_
              refine lv_iload hx hb d_Ma_goBehind_105 (lv_at hl 2 rfl) ?_
              refine lv_aload_n hx hb d_Ma_goBehind_107 rfl (lv_at hl 7 rfl) ?_
              refine r_get C0 hK hP 3 rfl rfl i_Pl 3 (by decide) wt_68 (fun _ h => h) rfl d_Ma_goBehind_108 ?_
              refine lv_iload hx hb d_Ma_goBehind_111 (lv_at hl 2 rfl) ?_
              refine r_ald C0 hK hP 4 rfl (by omega) (by decide) d_Ma_goBehind_113 ?_
              refine t_eq (y := (nI ((gbF sp k bh (sa v) i) (k * 8 + (dgt (sp (sa v + i)) 0))))) rfl ?_
              refine lv_iload hx hb d_Ma_goBehind_114 (lv_at hl 0 rfl) ?_
              refine r_min C0 wt_492 hl.1 (Nat.le_of_ble_eq_true rfl) (Nat.le_of_ble_eq_true rfl) (Nat.le_of_ble_eq_true rfl) (Nat.le_of_ble_eq_true rfl) (by omega) (by omega) d_Ma_goBehind_116 ?_
              refine r_astN C0 hK hP hD hS 4 rfl (by omega) (by decide) d_Ma_goBehind_119 (fun H locs hP hD hS => ?_)
              have hP : va_P D cls [(h, .inr (4, [.int (nI kd), .int (nI n), .int (nI w), .int (nI ns), .int (nI hn), .int (nI hq), .int (nI en), .int (nI mo), .ref st, .ref sr])), (st, .inl (cI, 30, .inl (nA sp))), (sr, .inl (cI, 7, .inl (nA sa))), (hp, .inr (2, [.ref po, .ref pk, .ref pa, .ref pb, .ref pw, .ref ps, .int (nI tm)])), (pb, .inl (cI, 56, .inl (nA (va_up (gbF sp k bh (sa v) i) (k * 8 + (dgt (sp (sa v + i)) 0)) (mi ((gbF sp k bh (sa v) i) (k * 8 + (dgt (sp (sa v + i)) 0))) (((gbF sp k bh (sa v) i) ((k + 1) * 8 + (dgt (sp (sa v + i)) 1))) + ((sp (sa v + i)) / 2 ^ 6)))))))] H := hP
              have hD : va_D A [(h, .inr (4, [.int (nI kd), .int (nI n), .int (nI w), .int (nI ns), .int (nI hn), .int (nI hq), .int (nI en), .int (nI mo), .ref st, .ref sr])), (st, .inl (cI, 30, .inl (nA sp))), (sr, .inl (cI, 7, .inl (nA sa))), (hp, .inr (2, [.ref po, .ref pk, .ref pa, .ref pb, .ref pw, .ref ps, .int (nI tm)])), (pb, .inl (cI, 56, .inl (nA (va_up (gbF sp k bh (sa v) i) (k * 8 + (dgt (sp (sa v + i)) 0)) (mi ((gbF sp k bh (sa v) i) (k * 8 + (dgt (sp (sa v + i)) 0))) (((gbF sp k bh (sa v) i) ((k + 1) * 8 + (dgt (sp (sa v + i)) 1))) + ((sp (sa v + i)) / 2 ^ 6)))))))] := hD
              rw [show (va_up (gbF sp k bh (sa v) i) (k * 8 + (dgt (sp (sa v + i)) 0)) (mi ((gbF sp k bh (sa v) i) (k * 8 + (dgt (sp (sa v + i)) 0))) (((gbF sp k bh (sa v) i) ((k + 1) * 8 + (dgt (sp (sa v + i)) 1))) + ((sp (sa v + i)) / 2 ^ 6)))) = gbF sp k bh (sa v) (i + 1) from rfl] at hP hD
              refine lv_iinc (v := (nI (sa v + i + 1))) (lv' := [(4, .int (nI (sa v + i + 1))), (7, .int (nI (((gbF sp k bh (sa v) i) ((k + 1) * 8 + (dgt (sp (sa v + i)) 1))) + ((sp (sa v + i)) / 2 ^ 6)))), (6, .int (nI ((k + 1) * 8 + (dgt (sp (sa v + i)) 1)))), (5, .int (nI (k * 8 + (dgt (sp (sa v + i)) 0)))), (0, .ref h), (1, .int (nI k)), (2, .int (nI v)), (3, .ref hp)]) hx hb d_Ma_goBehind_120 hl (k := 3) rfl (by exact nI_1 _) (by decide) rfl (fun ls hl => ?_)
              refine lv_goto (tgt := 25) hx hb d_Ma_goBehind_123 (by decide) ?_
              exact ih25 (i + 1) (by omega) (by omega) _ _ _ hP hD hS (lv_sub hl [0, 4, 5, 6, 7] rfl)
      exact L25 (sa (v + 1) - sa v + 1) 0 (by omega) (by omega) _ _ _ hP hD hS (lv_sub hl [0, 1, 2, 3, 4] rfl)
    · exact absurd hv (by simp at c_13; omega)
set_option maxHeartbeats 4000000 in
set_option maxRecDepth 100000 in
theorem c_Ma_goAhead (l : Launch) (D : va_G) (cI : ClassId) (sz : Nat) (h : Nat) (kd : Nat) (n : Nat) (w : Nat) (ns : Nat) (hn : Nat) (hq : Nat) (en : Nat) (mo : Nat) (st : Nat) (sr : Nat) (hp : Nat) (po : Nat) (pk : Nat) (pa : Nat) (pb : Nat) (pw : Nat) (ps : Nat) (tm : Nat) (sp : Nat → Nat) (sa : Nat → Nat) (ah : Nat → Nat) (bh : Nat → Nat) (k : Nat) (v : Nat) (hsp : ∀ j, sp j < 8192) (hsa : ∀ j, j < 6 → sa j ≤ sa (j + 1)) (hs6 : ∀ j, j ≤ 6 → sa j ≤ 30) (hk : k < 6) (hv : v < 6) (hbh : ∀ j, bh j ≤ 1000000) (hah : ∀ j, ah j ≤ 1000000) : MetI l y_Ma_goAhead b_Ma_goAhead 9 (some .int) { frames := 2, cells := 0, slots := 0, locals := 42 } D cI [] sz [(h, .inr (4, [.int (nI kd), .int (nI n), .int (nI w), .int (nI ns), .int (nI hn), .int (nI hq), .int (nI en), .int (nI mo), .ref st, .ref sr])), (st, .inl (cI, 30, .inl (nA sp))), (sr, .inl (cI, 7, .inl (nA sa))), (hp, .inr (2, [.ref po, .ref pk, .ref pa, .ref pb, .ref pw, .ref ps, .int (nI tm)])), (pa, .inl (cI, 56, .inl (nA ah))), (pb, .inl (cI, 56, .inl (nA bh)))] [.ref h, .int (nI k), .int (nI v), .ref hp] (fun (r : Int32) (u : Unit) => r = (nI ((gaF sp bh k ah (sa v) (sa (v + 1) - sa v)).2))) (fun u : Unit => [(h, .inr (4, [.int (nI kd), .int (nI n), .int (nI w), .int (nI ns), .int (nI hn), .int (nI hq), .int (nI en), .int (nI mo), .ref st, .ref sr])), (st, .inl (cI, 30, .inl (nA sp))), (sr, .inl (cI, 7, .inl (nA sa))), (hp, .inr (2, [.ref po, .ref pk, .ref pa, .ref pb, .ref pw, .ref ps, .int (nI tm)])), (pa, .inl (cI, 56, .inl (nA ((gaF sp bh k ah (sa v) (sa (v + 1) - sa v)).1)))), (pb, .inl (cI, 56, .inl (nA bh)))]) := by
  refine enter (by decide) (Nat.le_of_ble_eq_true rfl) ?_
  intro p e s m below meth c A ls C0 hr hlk hnm hK hsz hA hAe hP hD hS hl
  have hx := C0.1
  have hb := C0.2.1
  have hl : lv_has ls 9 [(0, .ref h), (1, .int (nI k)), (2, .int (nI v)), (3, .ref hp)] := hl
  refine lv_ldc (v := 1000000) hx hb C0.2.2.2.1 (C0.2.2.2.2 _ wt_499) d_Ma_goAhead_0 ?_
  refine t_eq (y := (nI 1000000)) rfl ?_
  refine lv_istore (lv' := [(4, .int (nI 1000000)), (0, .ref h), (1, .int (nI k)), (2, .int (nI v)), (3, .ref hp)]) hx hb d_Ma_goAhead_2 hl (by decide) rfl (fun ls hl => ?_)
  refine lv_iload_n hx hb d_Ma_goAhead_4 rfl (lv_at hl 2 rfl) ?_
  refine lv_iconst (v := (nI 0)) hx hb d_Ma_goAhead_5 (by decide) ?_
  refine lv_iconst (v := (nI 5)) hx hb d_Ma_goAhead_6 (by decide) ?_
  refine call_i (rm := { frames := 0, cells := 0, slots := 0, locals := 0 }) hS hP hD hA (spl_mk (wc := []) (wr := [(h, .inr (4, [.int (nI kd), .int (nI n), .int (nI w), .int (nI ns), .int (nI hn), .int (nI hq), .int (nI en), .int (nI mo), .ref st, .ref sr])), (st, .inl (cI, 30, .inl (nA sp))), (sr, .inl (cI, 7, .inl (nA sa))), (hp, .inr (2, [.ref po, .ref pk, .ref pa, .ref pb, .ref pw, .ref ps, .int (nI tm)])), (pa, .inl (cI, 56, .inl (nA ah))), (pb, .inl (cI, 56, .inl (nA bh)))]) [] [0, 1, 2, 3, 4, 5] rfl rfl (by decide)) (run_sN (n := 3) (As := [.int (nI k), .int (nI 0), .int (nI 5)]) (rest := []) C0 (hK.sub [] rfl) (c_TC_isIn l D cI s.heap.size (nI k) (nI 0) (nI 5)) wt_125 wt_1 wn_503 wt_124 (by decide +kernel) ⟨Nat.le_of_ble_eq_true rfl, Nat.le_of_ble_eq_true rfl⟩ rfl hl.1 rfl (Nat.le_of_ble_eq_true rfl) d_Ma_goAhead_7 ⟨Nat.le_of_ble_eq_true rfl, Nat.le_of_ble_eq_true rfl⟩) (fun r_7 _u7 H locs hw_7 hP hD hS => ?_)
  have hP : va_P D cls [(h, .inr (4, [.int (nI kd), .int (nI n), .int (nI w), .int (nI ns), .int (nI hn), .int (nI hq), .int (nI en), .int (nI mo), .ref st, .ref sr])), (st, .inl (cI, 30, .inl (nA sp))), (sr, .inl (cI, 7, .inl (nA sa))), (hp, .inr (2, [.ref po, .ref pk, .ref pa, .ref pb, .ref pw, .ref ps, .int (nI tm)])), (pa, .inl (cI, 56, .inl (nA ah))), (pb, .inl (cI, 56, .inl (nA bh)))] H := hP
  have hD : va_D A [(h, .inr (4, [.int (nI kd), .int (nI n), .int (nI w), .int (nI ns), .int (nI hn), .int (nI hq), .int (nI en), .int (nI mo), .ref st, .ref sr])), (st, .inl (cI, 30, .inl (nA sp))), (sr, .inl (cI, 7, .inl (nA sa))), (hp, .inr (2, [.ref po, .ref pk, .ref pa, .ref pb, .ref pw, .ref ps, .int (nI tm)])), (pa, .inl (cI, 56, .inl (nA ah))), (pb, .inl (cI, 56, .inl (nA bh)))] := hD
  subst hw_7
  refine t_eq (y := (bI (decide (k ≤ 5)))) (by rw [nat_in (by omega) (by decide)]) ?_
  refine y_eq (tgt := 20) hx hb d_Ma_goAhead_10 (by decide) (fun c_10 => ?_) (fun c_10 => ?_)
  · exact absurd hk (by simp at c_10; omega)
  · refine lv_iload_n hx hb d_Ma_goAhead_13 rfl (lv_at hl 3 rfl) ?_
    refine call_i (rm := { frames := 1, cells := 0, slots := 0, locals := 22 }) hS hP hD hA (spl_mk (wc := []) (wr := [(h, .inr (4, [.int (nI kd), .int (nI n), .int (nI w), .int (nI ns), .int (nI hn), .int (nI hq), .int (nI en), .int (nI mo), .ref st, .ref sr])), (st, .inl (cI, 30, .inl (nA sp))), (sr, .inl (cI, 7, .inl (nA sa))), (hp, .inr (2, [.ref po, .ref pk, .ref pa, .ref pb, .ref pw, .ref ps, .int (nI tm)])), (pa, .inl (cI, 56, .inl (nA ah))), (pb, .inl (cI, 56, .inl (nA bh)))]) [] [0, 1, 2, 3, 4, 5] rfl rfl (by decide)) (run_sN (n := 1) (As := [.int (nI v)]) (rest := []) C0 (hK.sub [] rfl) (c_TC_isValue l D cI H.size (nI v)) wt_221 wt_1 wn_267 wt_220 (by decide +kernel) ⟨Nat.le_of_ble_eq_true rfl, Nat.le_of_ble_eq_true rfl⟩ rfl hl.1 rfl (Nat.le_of_ble_eq_true rfl) d_Ma_goAhead_14 ⟨Nat.le_of_ble_eq_true rfl, Nat.le_of_ble_eq_true rfl⟩) (fun r_14 _u14 H locs hw_14 hP hD hS => ?_)
    have hP : va_P D cls [(h, .inr (4, [.int (nI kd), .int (nI n), .int (nI w), .int (nI ns), .int (nI hn), .int (nI hq), .int (nI en), .int (nI mo), .ref st, .ref sr])), (st, .inl (cI, 30, .inl (nA sp))), (sr, .inl (cI, 7, .inl (nA sa))), (hp, .inr (2, [.ref po, .ref pk, .ref pa, .ref pb, .ref pw, .ref ps, .int (nI tm)])), (pa, .inl (cI, 56, .inl (nA ah))), (pb, .inl (cI, 56, .inl (nA bh)))] H := hP
    have hD : va_D A [(h, .inr (4, [.int (nI kd), .int (nI n), .int (nI w), .int (nI ns), .int (nI hn), .int (nI hq), .int (nI en), .int (nI mo), .ref st, .ref sr])), (st, .inl (cI, 30, .inl (nA sp))), (sr, .inl (cI, 7, .inl (nA sa))), (hp, .inr (2, [.ref po, .ref pk, .ref pa, .ref pb, .ref pw, .ref ps, .int (nI tm)])), (pa, .inl (cI, 56, .inl (nA ah))), (pb, .inl (cI, 56, .inl (nA bh)))] := hD
    subst hw_14
    refine t_eq (y := (bI (decide (v ≤ 5)))) (by rw [nat_in (by omega) (by decide)]) ?_
    refine y_ne (tgt := 23) hx hb d_Ma_goAhead_17 (by decide) (fun c_17 => ?_) (fun c_17 => ?_)
    · refine lv_aload_n hx hb d_Ma_goAhead_23 rfl (lv_at hl 1 rfl) ?_
      refine r_get C0 hK hP 0 rfl rfl i_Ma 9 (by decide) wt_240 (fun _ h => h) rfl d_Ma_goAhead_24 ?_
      refine lv_iload_n hx hb d_Ma_goAhead_27 rfl (lv_at hl 3 rfl) ?_
      refine r_ald C0 hK hP 2 rfl (by omega) (by decide) d_Ma_goAhead_28 ?_
      refine t_eq (y := (nI (sa v))) rfl ?_
      refine lv_istore (lv' := [(5, .int (nI (sa v))), (4, .int (nI 1000000)), (0, .ref h), (1, .int (nI k)), (2, .int (nI v)), (3, .ref hp)]) hx hb d_Ma_goAhead_29 hl (by decide) rfl (fun ls hl => ?_)
      have hv1 := hsa v (by omega)
      have hv2 := hs6 (v + 1) (by omega)
      have hl : lv_has ls 9 [(5, .int (nI (sa v + 0))), (4, .int (nI 1000000)), (0, .ref h), (1, .int (nI k)), (2, .int (nI v)), (3, .ref hp)] := by rw [show sa v + 0 = sa v from rfl]; exact hl
      have hl : lv_has ls 9 [(5, .int (nI (sa v + 0))), (4, .int (nI ((gaF sp bh k ah (sa v) 0).2))), (0, .ref h), (1, .int (nI k)), (2, .int (nI v)), (3, .ref hp)] := by rw [show (gaF sp bh k ah (sa v) 0).2 = 1000000 from rfl]; exact hl
      rw [show ah = (gaF sp bh k ah (sa v) 0).1 from rfl] at hP hD
      have L31 : ∀ (fuel31 : Nat) (i : Nat), (i ≤ sa (v + 1) - sa v) → (sa (v + 1) - sa v < i + fuel31) → ∀ (H : Heap) (locs : List Loc) (ls : Array Slot), va_P D cls [(h, .inr (4, [.int (nI kd), .int (nI n), .int (nI w), .int (nI ns), .int (nI hn), .int (nI hq), .int (nI en), .int (nI mo), .ref st, .ref sr])), (st, .inl (cI, 30, .inl (nA sp))), (sr, .inl (cI, 7, .inl (nA sa))), (hp, .inr (2, [.ref po, .ref pk, .ref pa, .ref pb, .ref pw, .ref ps, .int (nI tm)])), (pa, .inl (cI, 56, .inl (nA ((gaF sp bh k ah (sa v) i).1)))), (pb, .inl (cI, 56, .inl (nA bh)))] H → va_D A [(h, .inr (4, [.int (nI kd), .int (nI n), .int (nI w), .int (nI ns), .int (nI hn), .int (nI hq), .int (nI en), .int (nI mo), .ref st, .ref sr])), (st, .inl (cI, 30, .inl (nA sp))), (sr, .inl (cI, 7, .inl (nA sa))), (hp, .inr (2, [.ref po, .ref pk, .ref pa, .ref pb, .ref pw, .ref ps, .int (nI tm)])), (pa, .inl (cI, 56, .inl (nA ((gaF sp bh k ah (sa v) i).1)))), (pb, .inl (cI, 56, .inl (nA bh)))] → va_S A s.heap H locs → lv_has ls 9 [(5, .int (nI (sa v + i))), (4, .int (nI ((gaF sp bh k ah (sa v) i).2))), (0, .ref h), (1, .int (nI k)), (2, .int (nI v)), (3, .ref hp)] → W p l e { frames := 2, cells := 0, slots := 0, locals := 42 } s m ([.ref h, .int (nI k), .int (nI v), .ref hp] : List Value).toArray below meth c H locs 0 0 (MQ below (pstI D [(h, .inr (4, [.int (nI kd), .int (nI n), .int (nI w), .int (nI ns), .int (nI hn), .int (nI hq), .int (nI en), .int (nI mo), .ref st, .ref sr])), (st, .inl (cI, 30, .inl (nA sp))), (sr, .inl (cI, 7, .inl (nA sa))), (hp, .inr (2, [.ref po, .ref pk, .ref pa, .ref pb, .ref pw, .ref ps, .int (nI tm)])), (pa, .inl (cI, 56, .inl (nA ah))), (pb, .inl (cI, 56, .inl (nA bh)))] sz (fun (r : Int32) (u : Unit) => r = (nI ((gaF sp bh k ah (sa v) (sa (v + 1) - sa v)).2))) (fun u : Unit => [(h, .inr (4, [.int (nI kd), .int (nI n), .int (nI w), .int (nI ns), .int (nI hn), .int (nI hq), .int (nI en), .int (nI mo), .ref st, .ref sr])), (st, .inl (cI, 30, .inl (nA sp))), (sr, .inl (cI, 7, .inl (nA sa))), (hp, .inr (2, [.ref po, .ref pk, .ref pa, .ref pb, .ref pw, .ref ps, .int (nI tm)])), (pa, .inl (cI, 56, .inl (nA ((gaF sp bh k ah (sa v) (sa (v + 1) - sa v)).1)))), (pb, .inl (cI, 56, .inl (nA bh)))])) ([.ref h, .int (nI k), .int (nI v), .ref hp] : List Value).toArray s 0 0 A) (F0 m 31 ls []) := by
        intro fuel31
        induction fuel31 with
        | zero => intros; omega
        | succ fuel31 ih31 =>
          intro i hi hfu H locs ls hP hD hS hl
          refine lv_iload hx hb d_Ma_goAhead_31 (lv_at hl 0 rfl) ?_
          refine lv_aload_n hx hb d_Ma_goAhead_33 rfl (lv_at hl 2 rfl) ?_
          refine r_get C0 hK hP 0 rfl rfl i_Ma 9 (by decide) wt_240 (fun _ h => h) rfl d_Ma_goAhead_34 ?_
          refine lv_iload_n hx hb d_Ma_goAhead_37 rfl (lv_at hl 4 rfl) ?_
          refine lv_iconst (v := (nI 1)) hx hb d_Ma_goAhead_38 (by decide) ?_
          refine lv_iadd hx hb d_Ma_goAhead_39 ?_
          refine t_eq (y := (nI (v + 1))) (nI_add _ _) ?_
          refine r_ald C0 hK hP 2 rfl (by omega) (by decide) d_Ma_goAhead_40 ?_
          refine t_eq (y := (nI (sa (v + 1)))) rfl ?_
          refine b_ge (tgt := 149) hx hb (by omega) (by omega) d_Ma_goAhead_41 (by decide) (fun c_41 => ?_) (fun c_41 => ?_)
          · refine lv_iload hx hb d_Ma_goAhead_149 (lv_at hl 1 rfl) ?_
            have hie : i = sa (v + 1) - sa v := by omega
            rw [hie] at hP hD
            exact ret_i C0 hr hlk hAe hS () (by rw [hie]) hP hD rfl (Nat.le_of_ble_eq_true rfl) (Nat.le_of_ble_eq_true rfl) d_Ma_goAhead_151
          · refine lv_iload hx hb d_Ma_goAhead_44 (lv_at hl 0 rfl) ?_
            refine lv_bipush (v := (nI 30)) hx hb d_Ma_goAhead_46 (by decide) ?_
            refine b_ge (tgt := 149) hx hb (by omega) (by decide) d_Ma_goAhead_48 (by decide) (fun c_48 => ?_) (fun c_48 => ?_)
            · refine lv_iload hx hb d_Ma_goAhead_149 (lv_at hl 1 rfl) ?_
              have hie : i = sa (v + 1) - sa v := by omega
              rw [hie] at hP hD
              exact ret_i C0 hr hlk hAe hS () (by rw [hie]) hP hD rfl (Nat.le_of_ble_eq_true rfl) (Nat.le_of_ble_eq_true rfl) d_Ma_goAhead_151
            · have hs1 := hsp (sa v + i)
              have hd0 := dgt_lt (sp (sa v + i)) 0
              have hd1 := dgt_lt (sp (sa v + i)) 1
              have hq6 : sp (sa v + i) / 2 ^ 6 < 128 := by omega
              have hle := gaF_le (sp := sp) (bh := bh) (k := k) (lo := sa v) hah i
              have hf0 := hle.2
              have hf1 := hle.1 (k * 8 + dgt (sp (sa v + i)) 0)
              have hf2 := hle.1 ((k + 1) * 8 + dgt (sp (sa v + i)) 1)
              have hf3 := hbh ((k + 1) * 8 + dgt (sp (sa v + i)) 1)
              refine lv_iload_n hx hb d_Ma_goAhead_51 rfl (lv_at hl 3 rfl) ?_
              refine lv_aload_n hx hb d_Ma_goAhead_52 rfl (lv_at hl 2 rfl) ?_
              refine r_get C0 hK hP 0 rfl rfl i_Ma 8 (by decide) wt_239 (fun _ h => h) rfl d_Ma_goAhead_53 ?_
              refine lv_iload hx hb d_Ma_goAhead_56 (lv_at hl 0 rfl) ?_
              refine r_ald C0 hK hP 1 rfl (by omega) (by decide) d_Ma_goAhead_58 ?_
              refine t_eq (y := (nI (sp (sa v + i)))) rfl ?_
              refine lv_iconst (v := (nI 0)) hx hb d_Ma_goAhead_59 (by decide) ?_
              refine call_i (rm := { frames := 0, cells := 0, slots := 0, locals := 0 }) hS hP hD hA (spl_mk (wc := []) (wr := [(h, .inr (4, [.int (nI kd), .int (nI n), .int (nI w), .int (nI ns), .int (nI hn), .int (nI hq), .int (nI en), .int (nI mo), .ref st, .ref sr])), (st, .inl (cI, 30, .inl (nA sp))), (sr, .inl (cI, 7, .inl (nA sa))), (hp, .inr (2, [.ref po, .ref pk, .ref pa, .ref pb, .ref pw, .ref ps, .int (nI tm)])), (pa, .inl (cI, 56, .inl (nA ((gaF sp bh k ah (sa v) i).1)))), (pb, .inl (cI, 56, .inl (nA bh)))]) [] [0, 1, 2, 3, 4, 5] rfl rfl (by decide)) (run_sN (n := 2) (As := [.int (nI (sp (sa v + i))), .int (nI 0)]) (rest := [.int (nI k)]) C0 (hK.sub [] rfl) (c_TC_digit l D cI H.size (sp (sa v + i)) 0 (by omega) (by omega)) wt_140 wt_1 wn_508 wt_139 (by decide +kernel) ⟨Nat.le_of_ble_eq_true rfl, Nat.le_of_ble_eq_true rfl⟩ rfl hl.1 rfl (Nat.le_of_ble_eq_true rfl) d_Ma_goAhead_60 ⟨Nat.le_of_ble_eq_true rfl, Nat.le_of_ble_eq_true rfl⟩) (fun r_60 _u60 H locs hw_60 hP hD hS => ?_)
              have hP : va_P D cls [(h, .inr (4, [.int (nI kd), .int (nI n), .int (nI w), .int (nI ns), .int (nI hn), .int (nI hq), .int (nI en), .int (nI mo), .ref st, .ref sr])), (st, .inl (cI, 30, .inl (nA sp))), (sr, .inl (cI, 7, .inl (nA sa))), (hp, .inr (2, [.ref po, .ref pk, .ref pa, .ref pb, .ref pw, .ref ps, .int (nI tm)])), (pa, .inl (cI, 56, .inl (nA ((gaF sp bh k ah (sa v) i).1)))), (pb, .inl (cI, 56, .inl (nA bh)))] H := hP
              have hD : va_D A [(h, .inr (4, [.int (nI kd), .int (nI n), .int (nI w), .int (nI ns), .int (nI hn), .int (nI hq), .int (nI en), .int (nI mo), .ref st, .ref sr])), (st, .inl (cI, 30, .inl (nA sp))), (sr, .inl (cI, 7, .inl (nA sa))), (hp, .inr (2, [.ref po, .ref pk, .ref pa, .ref pb, .ref pw, .ref ps, .int (nI tm)])), (pa, .inl (cI, 56, .inl (nA ((gaF sp bh k ah (sa v) i).1)))), (pb, .inl (cI, 56, .inl (nA bh)))] := hD
              subst hw_60
              have hd_60 := dgt_lt (sp (sa v + i)) 0
              refine call_i (rm := { frames := 0, cells := 0, slots := 0, locals := 0 }) hS hP hD hA (spl_mk (wc := []) (wr := [(h, .inr (4, [.int (nI kd), .int (nI n), .int (nI w), .int (nI ns), .int (nI hn), .int (nI hq), .int (nI en), .int (nI mo), .ref st, .ref sr])), (st, .inl (cI, 30, .inl (nA sp))), (sr, .inl (cI, 7, .inl (nA sa))), (hp, .inr (2, [.ref po, .ref pk, .ref pa, .ref pb, .ref pw, .ref ps, .int (nI tm)])), (pa, .inl (cI, 56, .inl (nA ((gaF sp bh k ah (sa v) i).1)))), (pb, .inl (cI, 56, .inl (nA bh)))]) [] [0, 1, 2, 3, 4, 5] rfl rfl (by decide)) (run_s (n := 2) (As := [.int (nI k), .int (nI (dgt (sp (sa v + i)) 0))]) (rest := []) C0 (hK.sub [] rfl) (c_Pl_costAt l D cI H.size k (dgt (sp (sa v + i)) 0)) wt_497 wt_3 wt_495 wt_496 (by decide +kernel) ⟨Nat.le_of_ble_eq_true rfl, Nat.le_of_ble_eq_true rfl⟩ rfl hl.1 rfl (Nat.le_of_ble_eq_true rfl) d_Ma_goAhead_63 ⟨Nat.le_of_ble_eq_true rfl, Nat.le_of_ble_eq_true rfl⟩) (fun r_63 _u63 H locs hw_63 hP hD hS => ?_)
              have hP : va_P D cls [(h, .inr (4, [.int (nI kd), .int (nI n), .int (nI w), .int (nI ns), .int (nI hn), .int (nI hq), .int (nI en), .int (nI mo), .ref st, .ref sr])), (st, .inl (cI, 30, .inl (nA sp))), (sr, .inl (cI, 7, .inl (nA sa))), (hp, .inr (2, [.ref po, .ref pk, .ref pa, .ref pb, .ref pw, .ref ps, .int (nI tm)])), (pa, .inl (cI, 56, .inl (nA ((gaF sp bh k ah (sa v) i).1)))), (pb, .inl (cI, 56, .inl (nA bh)))] H := hP
              have hD : va_D A [(h, .inr (4, [.int (nI kd), .int (nI n), .int (nI w), .int (nI ns), .int (nI hn), .int (nI hq), .int (nI en), .int (nI mo), .ref st, .ref sr])), (st, .inl (cI, 30, .inl (nA sp))), (sr, .inl (cI, 7, .inl (nA sa))), (hp, .inr (2, [.ref po, .ref pk, .ref pa, .ref pb, .ref pw, .ref ps, .int (nI tm)])), (pa, .inl (cI, 56, .inl (nA ((gaF sp bh k ah (sa v) i).1)))), (pb, .inl (cI, 56, .inl (nA bh)))] := hD
              subst hw_63
              refine lv_istore (lv' := [(6, .int (nI (k * 8 + (dgt (sp (sa v + i)) 0)))), (5, .int (nI (sa v + i))), (4, .int (nI ((gaF sp bh k ah (sa v) i).2))), (0, .ref h), (1, .int (nI k)), (2, .int (nI v)), (3, .ref hp)]) hx hb d_Ma_goAhead_66 hl (by decide) rfl (fun ls hl => ?_)
              refine lv_iload_n hx hb d_Ma_goAhead_68 rfl (lv_at hl 4 rfl) ?_
              refine lv_iconst (v := (nI 1)) hx hb d_Ma_goAhead_69 (by decide) ?_
              refine lv_iadd hx hb d_Ma_goAhead_70 ?_
              refine t_eq (y := (nI (k + 1))) (nI_add _ _) ?_
              refine lv_aload_n hx hb d_Ma_goAhead_71 rfl (lv_at hl 3 rfl) ?_
              refine r_get C0 hK hP 0 rfl rfl i_Ma 8 (by decide) wt_239 (fun _ h => h) rfl d_Ma_goAhead_72 ?_
              refine lv_iload hx hb d_Ma_goAhead_75 (lv_at hl 1 rfl) ?_
              refine r_ald C0 hK hP 1 rfl (by omega) (by decide) d_Ma_goAhead_77 ?_
              refine t_eq (y := (nI (sp (sa v + i)))) rfl ?_
              refine lv_iconst (v := (nI 1)) hx hb d_Ma_goAhead_78 (by decide) ?_
              refine call_i (rm := { frames := 0, cells := 0, slots := 0, locals := 0 }) hS hP hD hA (spl_mk (wc := []) (wr := [(h, .inr (4, [.int (nI kd), .int (nI n), .int (nI w), .int (nI ns), .int (nI hn), .int (nI hq), .int (nI en), .int (nI mo), .ref st, .ref sr])), (st, .inl (cI, 30, .inl (nA sp))), (sr, .inl (cI, 7, .inl (nA sa))), (hp, .inr (2, [.ref po, .ref pk, .ref pa, .ref pb, .ref pw, .ref ps, .int (nI tm)])), (pa, .inl (cI, 56, .inl (nA ((gaF sp bh k ah (sa v) i).1)))), (pb, .inl (cI, 56, .inl (nA bh)))]) [] [0, 1, 2, 3, 4, 5] rfl rfl (by decide)) (run_sN (n := 2) (As := [.int (nI (sp (sa v + i))), .int (nI 1)]) (rest := [.int (nI (k + 1))]) C0 (hK.sub [] rfl) (c_TC_digit l D cI H.size (sp (sa v + i)) 1 (by omega) (by omega)) wt_140 wt_1 wn_508 wt_139 (by decide +kernel) ⟨Nat.le_of_ble_eq_true rfl, Nat.le_of_ble_eq_true rfl⟩ rfl hl.1 rfl (Nat.le_of_ble_eq_true rfl) d_Ma_goAhead_79 ⟨Nat.le_of_ble_eq_true rfl, Nat.le_of_ble_eq_true rfl⟩) (fun r_79 _u79 H locs hw_79 hP hD hS => ?_)
              have hP : va_P D cls [(h, .inr (4, [.int (nI kd), .int (nI n), .int (nI w), .int (nI ns), .int (nI hn), .int (nI hq), .int (nI en), .int (nI mo), .ref st, .ref sr])), (st, .inl (cI, 30, .inl (nA sp))), (sr, .inl (cI, 7, .inl (nA sa))), (hp, .inr (2, [.ref po, .ref pk, .ref pa, .ref pb, .ref pw, .ref ps, .int (nI tm)])), (pa, .inl (cI, 56, .inl (nA ((gaF sp bh k ah (sa v) i).1)))), (pb, .inl (cI, 56, .inl (nA bh)))] H := hP
              have hD : va_D A [(h, .inr (4, [.int (nI kd), .int (nI n), .int (nI w), .int (nI ns), .int (nI hn), .int (nI hq), .int (nI en), .int (nI mo), .ref st, .ref sr])), (st, .inl (cI, 30, .inl (nA sp))), (sr, .inl (cI, 7, .inl (nA sa))), (hp, .inr (2, [.ref po, .ref pk, .ref pa, .ref pb, .ref pw, .ref ps, .int (nI tm)])), (pa, .inl (cI, 56, .inl (nA ((gaF sp bh k ah (sa v) i).1)))), (pb, .inl (cI, 56, .inl (nA bh)))] := hD
              subst hw_79
              have hd_79 := dgt_lt (sp (sa v + i)) 1
              refine call_i (rm := { frames := 0, cells := 0, slots := 0, locals := 0 }) hS hP hD hA (spl_mk (wc := []) (wr := [(h, .inr (4, [.int (nI kd), .int (nI n), .int (nI w), .int (nI ns), .int (nI hn), .int (nI hq), .int (nI en), .int (nI mo), .ref st, .ref sr])), (st, .inl (cI, 30, .inl (nA sp))), (sr, .inl (cI, 7, .inl (nA sa))), (hp, .inr (2, [.ref po, .ref pk, .ref pa, .ref pb, .ref pw, .ref ps, .int (nI tm)])), (pa, .inl (cI, 56, .inl (nA ((gaF sp bh k ah (sa v) i).1)))), (pb, .inl (cI, 56, .inl (nA bh)))]) [] [0, 1, 2, 3, 4, 5] rfl rfl (by decide)) (run_s (n := 2) (As := [.int (nI (k + 1)), .int (nI (dgt (sp (sa v + i)) 1))]) (rest := []) C0 (hK.sub [] rfl) (c_Pl_costAt l D cI H.size (k + 1) (dgt (sp (sa v + i)) 1)) wt_497 wt_3 wt_495 wt_496 (by decide +kernel) ⟨Nat.le_of_ble_eq_true rfl, Nat.le_of_ble_eq_true rfl⟩ rfl hl.1 rfl (Nat.le_of_ble_eq_true rfl) d_Ma_goAhead_82 ⟨Nat.le_of_ble_eq_true rfl, Nat.le_of_ble_eq_true rfl⟩) (fun r_82 _u82 H locs hw_82 hP hD hS => ?_)
              have hP : va_P D cls [(h, .inr (4, [.int (nI kd), .int (nI n), .int (nI w), .int (nI ns), .int (nI hn), .int (nI hq), .int (nI en), .int (nI mo), .ref st, .ref sr])), (st, .inl (cI, 30, .inl (nA sp))), (sr, .inl (cI, 7, .inl (nA sa))), (hp, .inr (2, [.ref po, .ref pk, .ref pa, .ref pb, .ref pw, .ref ps, .int (nI tm)])), (pa, .inl (cI, 56, .inl (nA ((gaF sp bh k ah (sa v) i).1)))), (pb, .inl (cI, 56, .inl (nA bh)))] H := hP
              have hD : va_D A [(h, .inr (4, [.int (nI kd), .int (nI n), .int (nI w), .int (nI ns), .int (nI hn), .int (nI hq), .int (nI en), .int (nI mo), .ref st, .ref sr])), (st, .inl (cI, 30, .inl (nA sp))), (sr, .inl (cI, 7, .inl (nA sa))), (hp, .inr (2, [.ref po, .ref pk, .ref pa, .ref pb, .ref pw, .ref ps, .int (nI tm)])), (pa, .inl (cI, 56, .inl (nA ((gaF sp bh k ah (sa v) i).1)))), (pb, .inl (cI, 56, .inl (nA bh)))] := hD
              subst hw_82
              refine lv_istore (lv' := [(7, .int (nI ((k + 1) * 8 + (dgt (sp (sa v + i)) 1)))), (6, .int (nI (k * 8 + (dgt (sp (sa v + i)) 0)))), (5, .int (nI (sa v + i))), (4, .int (nI ((gaF sp bh k ah (sa v) i).2))), (0, .ref h), (1, .int (nI k)), (2, .int (nI v)), (3, .ref hp)]) hx hb d_Ma_goAhead_85 hl (by decide) rfl (fun ls hl => ?_)
              refine lv_aload_n hx hb d_Ma_goAhead_87 rfl (lv_at hl 7 rfl) ?_
              refine r_get C0 hK hP 3 rfl rfl i_Pl 2 (by decide) wt_66 (fun _ h => h) rfl d_Ma_goAhead_88 ?_
              refine lv_iload hx hb d_Ma_goAhead_91 (lv_at hl 1 rfl) ?_
              refine r_ald C0 hK hP 4 rfl (by omega) (by decide) d_Ma_goAhead_93 ?_
              refine t_eq (y := (nI (((gaF sp bh k ah (sa v) i).1) (k * 8 + (dgt (sp (sa v + i)) 0))))) rfl ?_
              refine lv_aload_n hx hb d_Ma_goAhead_94 rfl (lv_at hl 4 rfl) ?_
              refine r_get C0 hK hP 0 rfl rfl i_Ma 8 (by decide) wt_239 (fun _ h => h) rfl d_Ma_goAhead_95 ?_
              refine lv_iload hx hb d_Ma_goAhead_98 (lv_at hl 2 rfl) ?_
              refine r_ald C0 hK hP 1 rfl (by omega) (by decide) d_Ma_goAhead_100 ?_
              refine t_eq (y := (nI (sp (sa v + i)))) rfl ?_
              refine lv_bipush (v := (nI 6)) hx hb d_Ma_goAhead_101 (by decide) ?_
              refine lv_iushr (v := (nI ((sp (sa v + i)) / 2 ^ 6))) hx hb d_Ma_goAhead_103 (m_ushr (by omega) (by decide)) ?_
              refine lv_iadd hx hb d_Ma_goAhead_104 ?_
              refine t_eq (y := (nI ((((gaF sp bh k ah (sa v) i).1) (k * 8 + (dgt (sp (sa v + i)) 0))) + ((sp (sa v + i)) / 2 ^ 6)))) (nI_add _ _) ?_
              refine lv_istore (lv' := [(8, .int (nI ((((gaF sp bh k ah (sa v) i).1) (k * 8 + (dgt (sp (sa v + i)) 0))) + ((sp (sa v + i)) / 2 ^ 6)))), (7, .int (nI ((k + 1) * 8 + (dgt (sp (sa v + i)) 1)))), (6, .int (nI (k * 8 + (dgt (sp (sa v + i)) 0)))), (5, .int (nI (sa v + i))), (4, .int (nI ((gaF sp bh k ah (sa v) i).2))), (0, .ref h), (1, .int (nI k)), (2, .int (nI v)), (3, .ref hp)]) hx hb d_Ma_goAhead_105 hl (by decide) rfl (fun ls hl => ?_)
              refine lv_aload_n hx hb d_Ma_goAhead_107 rfl (lv_at hl 8 rfl) ?_
              refine r_get C0 hK hP 3 rfl rfl i_Pl 2 (by decide) wt_66 (fun _ h => h) rfl d_Ma_goAhead_108 ?_
              refine lv_iload hx hb d_Ma_goAhead_111 (lv_at hl 1 rfl) ?_
              refine lv_aload_n hx hb d_Ma_goAhead_113 rfl (lv_at hl 8 rfl) ?_
              refine r_get C0 hK hP 3 rfl rfl i_Pl 2 (by decide) wt_66 (fun _ h => h) rfl d_Ma_goAhead_114 ?_
              refine lv_iload hx hb d_Ma_goAhead_117 (lv_at hl 1 rfl) ?_
              refine r_ald C0 hK hP 4 rfl (by omega) (by decide) d_Ma_goAhead_119 ?_
              refine t_eq (y := (nI (((gaF sp bh k ah (sa v) i).1) ((k + 1) * 8 + (dgt (sp (sa v + i)) 1))))) rfl ?_
              refine lv_iload hx hb d_Ma_goAhead_120 (lv_at hl 0 rfl) ?_
              refine r_min C0 wt_492 hl.1 (Nat.le_of_ble_eq_true rfl) (Nat.le_of_ble_eq_true rfl) (Nat.le_of_ble_eq_true rfl) (Nat.le_of_ble_eq_true rfl) (by omega) (by omega) d_Ma_goAhead_122 ?_
              refine r_astN C0 hK hP hD hS 4 rfl (by omega) (by decide) d_Ma_goAhead_125 (fun H locs hP hD hS => ?_)
              have hP : va_P D cls [(h, .inr (4, [.int (nI kd), .int (nI n), .int (nI w), .int (nI ns), .int (nI hn), .int (nI hq), .int (nI en), .int (nI mo), .ref st, .ref sr])), (st, .inl (cI, 30, .inl (nA sp))), (sr, .inl (cI, 7, .inl (nA sa))), (hp, .inr (2, [.ref po, .ref pk, .ref pa, .ref pb, .ref pw, .ref ps, .int (nI tm)])), (pa, .inl (cI, 56, .inl (nA (va_up ((gaF sp bh k ah (sa v) i).1) ((k + 1) * 8 + (dgt (sp (sa v + i)) 1)) (mi (((gaF sp bh k ah (sa v) i).1) ((k + 1) * 8 + (dgt (sp (sa v + i)) 1))) ((((gaF sp bh k ah (sa v) i).1) (k * 8 + (dgt (sp (sa v + i)) 0))) + ((sp (sa v + i)) / 2 ^ 6))))))), (pb, .inl (cI, 56, .inl (nA bh)))] H := hP
              have hD : va_D A [(h, .inr (4, [.int (nI kd), .int (nI n), .int (nI w), .int (nI ns), .int (nI hn), .int (nI hq), .int (nI en), .int (nI mo), .ref st, .ref sr])), (st, .inl (cI, 30, .inl (nA sp))), (sr, .inl (cI, 7, .inl (nA sa))), (hp, .inr (2, [.ref po, .ref pk, .ref pa, .ref pb, .ref pw, .ref ps, .int (nI tm)])), (pa, .inl (cI, 56, .inl (nA (va_up ((gaF sp bh k ah (sa v) i).1) ((k + 1) * 8 + (dgt (sp (sa v + i)) 1)) (mi (((gaF sp bh k ah (sa v) i).1) ((k + 1) * 8 + (dgt (sp (sa v + i)) 1))) ((((gaF sp bh k ah (sa v) i).1) (k * 8 + (dgt (sp (sa v + i)) 0))) + ((sp (sa v + i)) / 2 ^ 6))))))), (pb, .inl (cI, 56, .inl (nA bh)))] := hD
              refine lv_iload hx hb d_Ma_goAhead_126 (lv_at hl 4 rfl) ?_
              refine lv_iload hx hb d_Ma_goAhead_128 (lv_at hl 0 rfl) ?_
              refine lv_aload_n hx hb d_Ma_goAhead_130 rfl (lv_at hl 8 rfl) ?_
              refine r_get C0 hK hP 3 rfl rfl i_Pl 3 (by decide) wt_68 (fun _ h => h) rfl d_Ma_goAhead_131 ?_
              refine lv_iload hx hb d_Ma_goAhead_134 (lv_at hl 1 rfl) ?_
              refine r_ald C0 hK hP 5 rfl (by omega) (by decide) d_Ma_goAhead_136 ?_
              refine t_eq (y := (nI (bh ((k + 1) * 8 + (dgt (sp (sa v + i)) 1))))) rfl ?_
              refine lv_iadd hx hb d_Ma_goAhead_137 ?_
              refine t_eq (y := (nI (((((gaF sp bh k ah (sa v) i).1) (k * 8 + (dgt (sp (sa v + i)) 0))) + ((sp (sa v + i)) / 2 ^ 6)) + (bh ((k + 1) * 8 + (dgt (sp (sa v + i)) 1)))))) (nI_add _ _) ?_
              refine r_min C0 wt_492 hl.1 (Nat.le_of_ble_eq_true rfl) (Nat.le_of_ble_eq_true rfl) (Nat.le_of_ble_eq_true rfl) (Nat.le_of_ble_eq_true rfl) (by omega) (by omega) d_Ma_goAhead_138 ?_
              refine lv_istore (lv' := [(4, .int (nI (mi ((gaF sp bh k ah (sa v) i).2) (((((gaF sp bh k ah (sa v) i).1) (k * 8 + (dgt (sp (sa v + i)) 0))) + ((sp (sa v + i)) / 2 ^ 6)) + (bh ((k + 1) * 8 + (dgt (sp (sa v + i)) 1))))))), (8, .int (nI ((((gaF sp bh k ah (sa v) i).1) (k * 8 + (dgt (sp (sa v + i)) 0))) + ((sp (sa v + i)) / 2 ^ 6)))), (7, .int (nI ((k + 1) * 8 + (dgt (sp (sa v + i)) 1)))), (6, .int (nI (k * 8 + (dgt (sp (sa v + i)) 0)))), (5, .int (nI (sa v + i))), (0, .ref h), (1, .int (nI k)), (2, .int (nI v)), (3, .ref hp)]) hx hb d_Ma_goAhead_141 hl (by decide) rfl (fun ls hl => ?_)
              rw [show (va_up ((gaF sp bh k ah (sa v) i).1) ((k + 1) * 8 + (dgt (sp (sa v + i)) 1)) (mi (((gaF sp bh k ah (sa v) i).1) ((k + 1) * 8 + (dgt (sp (sa v + i)) 1))) ((((gaF sp bh k ah (sa v) i).1) (k * 8 + (dgt (sp (sa v + i)) 0))) + ((sp (sa v + i)) / 2 ^ 6)))) = (gaF sp bh k ah (sa v) (i + 1)).1 from rfl] at hP hD
              have hl : lv_has ls 9 [(4, .int (nI ((gaF sp bh k ah (sa v) (i + 1)).2))), (8, .int (nI ((((gaF sp bh k ah (sa v) i).1) (k * 8 + (dgt (sp (sa v + i)) 0))) + ((sp (sa v + i)) / 2 ^ 6)))), (7, .int (nI ((k + 1) * 8 + (dgt (sp (sa v + i)) 1)))), (6, .int (nI (k * 8 + (dgt (sp (sa v + i)) 0)))), (5, .int (nI (sa v + i))), (0, .ref h), (1, .int (nI k)), (2, .int (nI v)), (3, .ref hp)] := by rw [show (gaF sp bh k ah (sa v) (i + 1)).2 = mi ((gaF sp bh k ah (sa v) i).2) (((((gaF sp bh k ah (sa v) i).1) (k * 8 + (dgt (sp (sa v + i)) 0))) + ((sp (sa v + i)) / 2 ^ 6)) + (bh ((k + 1) * 8 + (dgt (sp (sa v + i)) 1)))) from rfl]; exact hl
              refine lv_iinc (v := (nI (sa v + i + 1))) (lv' := [(5, .int (nI (sa v + i + 1))), (4, .int (nI ((gaF sp bh k ah (sa v) (i + 1)).2))), (8, .int (nI ((((gaF sp bh k ah (sa v) i).1) (k * 8 + (dgt (sp (sa v + i)) 0))) + ((sp (sa v + i)) / 2 ^ 6)))), (7, .int (nI ((k + 1) * 8 + (dgt (sp (sa v + i)) 1)))), (6, .int (nI (k * 8 + (dgt (sp (sa v + i)) 0)))), (0, .ref h), (1, .int (nI k)), (2, .int (nI v)), (3, .ref hp)]) hx hb d_Ma_goAhead_143 hl (k := 4) rfl (by exact nI_1 _) (by decide) rfl (fun ls hl => ?_)
              refine lv_goto (tgt := 31) hx hb d_Ma_goAhead_146 (by decide) ?_
              exact ih31 (i + 1) (by omega) (by omega) _ _ _ hP hD hS (lv_sub hl [0, 1, 5, 6, 7, 8] rfl)
      exact L31 (sa (v + 1) - sa v + 1) 0 (by omega) (by omega) _ _ _ hP hD hS (lv_sub hl [0, 1, 2, 3, 4, 5] rfl)
    · exact absurd hv (by simp at c_17; omega)
