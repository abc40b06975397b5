def isC (ci : Nat) : Prop := 3 ≤ ci ∧ ci ≤ 9
theorem isC_of {ci : Nat} (h : isC ci) : ∃ (C : String) (T : u_T) (N : Nat) (ty0 : Nat → FieldType), cls[ci]? = some (C, T, N) ∧ 6 ≤ N ∧ (∀ k, k < 6 → T k = F_El k) ∧ (∀ w ∈ u_ws C T N, w ∈ gt) ∧ (∀ k, k < N → parseFieldDescriptor (T k).2.2.1 = some (ty0 k)) ∧ (∀ k, k < 6 → ty0 k = .int) ∧ (∀ a, a < N → ∀ b, b < N → a ≠ b → (T a).2.1 ≠ (T b).2.1) := by
  unfold isC at h
  rcases (show ci = 3 ∨ ci = 4 ∨ ci = 5 ∨ ci = 6 ∨ ci = 7 ∨ ci = 8 ∨ ci = 9 by omega) with rfl | rfl | rfl | rfl | rfl | rfl | rfl
  · exact ⟨_, _, _, t_Ta, rfl, by decide, by decide +kernel, i_Ta, k_Ta, by decide +kernel, n_Ta⟩
  · exact ⟨_, _, _, t_Ma, rfl, by decide, by decide +kernel, i_Ma, k_Ma, by decide +kernel, n_Ma⟩
  · exact ⟨_, _, _, t_El, rfl, by decide, by decide +kernel, i_El, k_El, by decide +kernel, n_El⟩
  · exact ⟨_, _, _, t_Or, rfl, by decide, by decide +kernel, i_Or, k_Or, by decide +kernel, n_Or⟩
  · exact ⟨_, _, _, t_Su, rfl, by decide, by decide +kernel, i_Su, k_Su, by decide +kernel, n_Su⟩
  · exact ⟨_, _, _, t_Ty, rfl, by decide, by decide +kernel, i_Ty, k_Ty, by decide +kernel, n_Ty⟩
  · exact ⟨_, _, _, t_Fi, rfl, by decide, by decide +kernel, i_Fi, k_Fi, by decide +kernel, n_Fi⟩
section NR2
variable {p : Program} {l : Launch} {e : Env} {R : Room} {s : State} {m : MethodId} {args : Array Value} {below : List Frame} {meth : Method} {c : Code} {H : Heap} {locs : List Loc} {cells slots : Nat} {Q : State → Prop}
variable {cc : ByteArray} {pc nL : Nat} {ls : Array Slot} {rest : List Value} {own : String} {D : va_G} {cI : ClassId} {tys : List (ClassId × FieldType)} {ws : va_W} {A : Nat → Prop} {a : Nat}
theorem r_getC (C0 : CallFix p m c cc nL s args gt own) (hK : KK D cI tys s) (hP : va_P D cls ws H) {ref : String} {ci index : Nat} (q0 : Nat) {fs : List Value} (he : ws[q0]? = some (a, .inr (ci, fs))) (hci : isC ci) (k : Nat) (hk : k < 6) (hl : Cond.fieldLink own index ref (F_El k).2.1 (F_El k).2.2.1 ∈ gt) (hsame : ∀ x, s.fieldFound? (F_El k).1 (F_El k).2.1 (F_El k).2.2.1 = some x → s.fieldFound? ref (F_El k).2.1 (F_El k).2.2.1 = some x) {v : Value} (hv : fs[k]? = some v) (hd : decode cc pc = .ok (.getfield index, 3))
    (kk : W p l e R s m args below meth c H locs cells slots Q (F0 m (pc + 3) ls (v :: rest))) : W p l e R s m args below meth c H locs cells slots Q (F0 m pc ls (.ref a :: rest)) := by
  obtain ⟨C, T, N, ty0, hc, hN, hT, hin, -⟩ := isC_of hci
  exact r_get C0 hK hP q0 he hc hin k (by omega) (by rw [hT k hk]; exact hl) (by rw [hT k hk]; exact hsame) hv hd kk
theorem r_putC (C0 : CallFix p m c cc nL s args gt own) (hK : KK D cI tys s) (hP : va_P D cls ws H) (hD : va_D A ws) (hS : va_S A s.heap H locs) {ref : String} {ci index : Nat} (q0 : Nat) {fs : List Value} (he : ws[q0]? = some (a, .inr (ci, fs))) (hci : isC ci) (k : Nat) (hk : k < 6) (hl : Cond.fieldLink own index ref (F_El k).2.1 (F_El k).2.2.1 ∈ gt) (hsame : ∀ x, s.fieldFound? (F_El k).1 (F_El k).2.1 (F_El k).2.2.1 = some x → s.fieldFound? ref (F_El k).2.1 (F_El k).2.2.1 = some x) (hfin : (F_El k).2.2.2 = true) (hini : meth.name = "<init>") (hdecl : (F_El k).1 = own) {x : Int32} (hlen : k < fs.length) (hd : decode cc pc = .ok (.putfield index, 3))
    (kk : ∀ (H1 : Heap) (locs1 : List Loc), va_P D cls (ws.set q0 (a, .inr (ci, fs.set k (.int x)))) H1 → va_D A (ws.set q0 (a, .inr (ci, fs.set k (.int x)))) → va_S A s.heap H1 locs1 → W p l e R s m args below meth c H1 locs1 cells slots Q (F0 m (pc + 3) ls rest)) : W p l e R s m args below meth c H locs cells slots Q (F0 m pc ls (.int x :: .ref a :: rest)) := by
  obtain ⟨C, T, N, ty0, hc, hN, hT, hin, hty, hint, hnm⟩ := isC_of hci
  exact r_putF C0 hK hP hD hS q0 he hc hin ty0 hty hnm k (by omega) (by rw [hT k hk]; exact hl) (by rw [hT k hk]; exact hsame) (by rw [hT k hk]; exact hfin) hini (by rw [hT k hk]; exact hdecl) (by rw [hint k hk]; rfl) (by rw [hint k hk]; rfl) hlen hd kk
end NR2
def nsF (w : Nat) : Nat → Nat
  | 0 => 0
  | i + 1 => nsF w i ||| 2 ^ dgt w i
def hpF (w : Nat) : Nat → Nat
  | 0 => 0
  | i + 1 => if dgt w (hpF w i) < dgt w i then i else hpF w i
theorem nsF_lt (w : Nat) : ∀ i, nsF w i < 256
  | 0 => by show 0 < 256; decide
  | i + 1 => by
    have h1 := nsF_lt w i
    have h2 : 2 ^ dgt w i < 2 ^ 8 := Nat.pow_lt_pow_right (a := 2) (by decide) (dgt_lt w i)
    exact Nat.or_lt_two_pow (n := 8) h1 h2
theorem hpF_le (w : Nat) : ∀ i, hpF w i ≤ i
  | 0 => Nat.le_refl _
  | i + 1 => by
    have h1 := hpF_le w i
    unfold hpF
    split <;> omega
set_option maxHeartbeats 4000000 in
set_option maxRecDepth 100000 in
theorem c_Co_init (l : Launch) (D : va_G) (cI : ClassId) (sz : Nat) (h : Nat) (ci : Nat) (ex : List Value) (kd : Nat) (mn : Nat) (w : Nat) (hci : isC ci) (hmn : mn ≤ 6) (hw : w < 2147483648) : MetV l y_Co_init b_Co_init 7 { frames := 1, cells := 0, slots := 0, locals := 21 } D cI [] sz [(h, .inr (ci, .int (nI 0) :: .int (nI 0) :: .int (nI 0) :: .int (nI 0) :: .int (nI 0) :: .int (nI 0) :: ex))] [.ref h, .int (nI kd), .int (nI mn), .int (nI w)] (fun (u : Unit) => True) (fun u : Unit => [(h, .inr (ci, .int (nI kd) :: .int (nI mn) :: .int (nI w) :: .int (nI (nsF w mn)) :: .int (nI (dgt w (hpF w mn))) :: .int (nI (hpF w mn)) :: ex))]) := by
  refine enter (by decide) (Nat.le_of_ble_eq_true rfl) ?_
  intro p e s m below meth c A ls C0 hr hlk hnm hK hsz hA hAe hP hD hS hl
  have hx := C0.1
  have hb := C0.2.1
  have hl : lv_has ls 7 [(0, .ref h), (1, .int (nI kd)), (2, .int (nI mn)), (3, .int (nI w))] := hl
  refine lv_aload_n hx hb d_Co_init_0 rfl (lv_at hl 0 rfl) ?_
  refine r_obj C0 wt_160 hl.1 (Nat.le_of_ble_eq_true rfl) (Nat.le_of_ble_eq_true rfl) d_Co_init_1 ?_
  refine lv_iconst (v := (nI 0)) hx hb d_Co_init_4 (by decide) ?_
  refine lv_istore (lv' := [(4, .int (nI 0)), (0, .ref h), (1, .int (nI kd)), (2, .int (nI mn)), (3, .int (nI w))]) hx hb d_Co_init_5 hl (by decide) rfl (fun ls hl => ?_)
  refine lv_iconst (v := (nI 0)) hx hb d_Co_init_7 (by decide) ?_
  refine lv_istore (lv' := [(5, .int (nI 0)), (4, .int (nI 0)), (0, .ref h), (1, .int (nI kd)), (2, .int (nI mn)), (3, .int (nI w))]) hx hb d_Co_init_8 hl (by decide) rfl (fun ls hl => ?_)
  have hl : lv_has ls 7 [(5, .int (nI 0)), (4, .int (nI (nsF w 0))), (0, .ref h), (1, .int (nI kd)), (2, .int (nI mn)), (3, .int (nI w))] := by rw [show nsF w 0 = 0 from rfl]; exact hl
  have hl : lv_has ls 7 [(5, .int (nI (hpF w 0))), (4, .int (nI (nsF w 0))), (0, .ref h), (1, .int (nI kd)), (2, .int (nI mn)), (3, .int (nI w))] := by rw [show hpF w 0 = 0 from rfl]; exact hl
  refine lv_iconst (v := (nI 0)) hx hb d_Co_init_10 (by decide) ?_
  refine lv_istore (lv' := [(6, .int (nI 0)), (5, .int (nI (hpF w 0))), (4, .int (nI (nsF w 0))), (0, .ref h), (1, .int (nI kd)), (2, .int (nI mn)), (3, .int (nI w))]) hx hb d_Co_init_11 hl (by decide) rfl (fun ls hl => ?_)
  have L13 : ∀ (fuel13 : Nat) (i : Nat), (i ≤ mn) → (mn < i + fuel13) → ∀ (H : Heap) (locs : List Loc) (ls : Array Slot), va_P D cls [(h, .inr (ci, .int (nI 0) :: .int (nI 0) :: .int (nI 0) :: .int (nI 0) :: .int (nI 0) :: .int (nI 0) :: ex))] H → va_D A [(h, .inr (ci, .int (nI 0) :: .int (nI 0) :: .int (nI 0) :: .int (nI 0) :: .int (nI 0) :: .int (nI 0) :: ex))] → va_S A s.heap H locs → lv_has ls 7 [(6, .int (nI i)), (5, .int (nI (hpF w i))), (4, .int (nI (nsF w i))), (0, .ref h), (1, .int (nI kd)), (2, .int (nI mn)), (3, .int (nI w))] → W p l e { frames := 1, cells := 0, slots := 0, locals := 21 } s m ([.ref h, .int (nI kd), .int (nI mn), .int (nI w)] : List Value).toArray below meth c H locs 0 0 (MQ below (pstV D [(h, .inr (ci, .int (nI 0) :: .int (nI 0) :: .int (nI 0) :: .int (nI 0) :: .int (nI 0) :: .int (nI 0) :: ex))] sz (fun (u : Unit) => True) (fun u : Unit => [(h, .inr (ci, .int (nI kd) :: .int (nI mn) :: .int (nI w) :: .int (nI (nsF w mn)) :: .int (nI (dgt w (hpF w mn))) :: .int (nI (hpF w mn)) :: ex))])) ([.ref h, .int (nI kd), .int (nI mn), .int (nI w)] : List Value).toArray s 0 0 A) (F0 m 13 ls []) := by
    intro fuel13
    induction fuel13 with
    | zero => intros; omega
    | succ fuel13 ih13 =>
      intro i hi hfu H locs ls hP hD hS hl
      have hh := hpF_le w i
      have hn2 := nsF_lt w i
      refine lv_iload hx hb d_Co_init_13 (lv_at hl 0 rfl) ?_
      refine lv_iload_n hx hb d_Co_init_15 rfl (lv_at hl 5 rfl) ?_
      refine b_ge (tgt := 64) hx hb (by omega) (by omega) d_Co_init_16 (by decide) (fun c_16 => ?_) (fun c_16 => ?_)
      · obtain rfl : mn = i := (by omega)
        have hl : lv_has ls 7 [(6, .int (nI mn)), (5, .int (nI (hpF w mn))), (4, .int (nI (nsF w mn))), (0, .ref h), (1, .int (nI kd)), (2, .int (nI mn)), (3, .int (nI w))] := hl
        refine lv_aload_n hx hb d_Co_init_64 rfl (lv_at hl 3 rfl) ?_
        refine lv_iload_n hx hb d_Co_init_65 rfl (lv_at hl 4 rfl) ?_
        refine r_putC C0 hK hP hD hS 0 rfl hci 0 (by decide) wt_164 (fun _ h => h) rfl hnm rfl (Nat.le_of_ble_eq_true rfl) d_Co_init_66 (fun H locs hP hD hS => ?_)
        have hP : va_P D cls [(h, .inr (ci, .int (nI kd) :: .int (nI 0) :: .int (nI 0) :: .int (nI 0) :: .int (nI 0) :: .int (nI 0) :: ex))] H := hP
        have hD : va_D A [(h, .inr (ci, .int (nI kd) :: .int (nI 0) :: .int (nI 0) :: .int (nI 0) :: .int (nI 0) :: .int (nI 0) :: ex))] := hD
        refine lv_aload_n hx hb d_Co_init_69 rfl (lv_at hl 3 rfl) ?_
        refine lv_iload_n hx hb d_Co_init_70 rfl (lv_at hl 5 rfl) ?_
        refine r_putC C0 hK hP hD hS 0 rfl hci 1 (by decide) wt_166 (fun _ h => h) rfl hnm rfl (Nat.le_of_ble_eq_true rfl) d_Co_init_71 (fun H locs hP hD hS => ?_)
        have hP : va_P D cls [(h, .inr (ci, .int (nI kd) :: .int (nI mn) :: .int (nI 0) :: .int (nI 0) :: .int (nI 0) :: .int (nI 0) :: ex))] H := hP
        have hD : va_D A [(h, .inr (ci, .int (nI kd) :: .int (nI mn) :: .int (nI 0) :: .int (nI 0) :: .int (nI 0) :: .int (nI 0) :: ex))] := hD
        refine lv_aload_n hx hb d_Co_init_74 rfl (lv_at hl 3 rfl) ?_
        refine lv_iload_n hx hb d_Co_init_75 rfl (lv_at hl 6 rfl) ?_
        refine r_putC C0 hK hP hD hS 0 rfl hci 2 (by decide) wt_179 (fun _ h => h) rfl hnm rfl (Nat.le_of_ble_eq_true rfl) d_Co_init_76 (fun H locs hP hD hS => ?_)
        have hP : va_P D cls [(h, .inr (ci, .int (nI kd) :: .int (nI mn) :: .int (nI w) :: .int (nI 0) :: .int (nI 0) :: .int (nI 0) :: ex))] H := hP
        have hD : va_D A [(h, .inr (ci, .int (nI kd) :: .int (nI mn) :: .int (nI w) :: .int (nI 0) :: .int (nI 0) :: .int (nI 0) :: ex))] := hD
        refine lv_aload_n hx hb d_Co_init_79 rfl (lv_at hl 3 rfl) ?_
        refine lv_iload hx hb d_Co_init_80 (lv_at hl 2 rfl) ?_
        refine r_putC C0 hK hP hD hS 0 rfl hci 3 (by decide) wt_181 (fun _ h => h) rfl hnm rfl (Nat.le_of_ble_eq_true rfl) d_Co_init_82 (fun H locs hP hD hS => ?_)
        have hP : va_P D cls [(h, .inr (ci, .int (nI kd) :: .int (nI mn) :: .int (nI w) :: .int (nI (nsF w mn)) :: .int (nI 0) :: .int (nI 0) :: ex))] H := hP
        have hD : va_D A [(h, .inr (ci, .int (nI kd) :: .int (nI mn) :: .int (nI w) :: .int (nI (nsF w mn)) :: .int (nI 0) :: .int (nI 0) :: ex))] := hD
        refine lv_aload_n hx hb d_Co_init_85 rfl (lv_at hl 3 rfl) ?_
        refine lv_iload_n hx hb d_Co_init_86 rfl (lv_at hl 6 rfl) ?_
        refine lv_iload hx hb d_Co_init_87 (lv_at hl 1 rfl) ?_
        refine call_i (rm := { frames := 0, cells := 0, slots := 0, locals := 0 }) hS hP hD hA (spl_mk (wc := []) (wr := [(h, .inr (ci, .int (nI kd) :: .int (nI mn) :: .int (nI w) :: .int (nI (nsF w mn)) :: .int (nI 0) :: .int (nI 0) :: ex))]) [] [0] rfl rfl (by decide)) (run_sN (n := 2) (As := [.int (nI w), .int (nI (hpF w mn))]) (rest := [.ref h]) C0 (hK.sub [] rfl) (c_TC_digit l D cI H.size w (hpF w mn) (by omega) (by omega)) wt_140 wt_1 wn_161 wt_139 (by decide +kernel) ⟨Nat.le_of_ble_eq_true rfl, Nat.le_of_ble_eq_true rfl⟩ rfl hl.1 rfl (Nat.le_of_ble_eq_true rfl) d_Co_init_89 ⟨Nat.le_of_ble_eq_true rfl, Nat.le_of_ble_eq_true rfl⟩) (fun r_89 _u89 H locs hw_89 hP hD hS => ?_)
        have hP : va_P D cls [(h, .inr (ci, .int (nI kd) :: .int (nI mn) :: .int (nI w) :: .int (nI (nsF w mn)) :: .int (nI 0) :: .int (nI 0) :: ex))] H := hP
        have hD : va_D A [(h, .inr (ci, .int (nI kd) :: .int (nI mn) :: .int (nI w) :: .int (nI (nsF w mn)) :: .int (nI 0) :: .int (nI 0) :: ex))] := hD
        subst hw_89
        have hd_89 := dgt_lt w (hpF w mn)
        refine r_putC C0 hK hP hD hS 0 rfl hci 4 (by decide) wt_183 (fun _ h => h) rfl hnm rfl (Nat.le_of_ble_eq_true rfl) d_Co_init_92 (fun H locs hP hD hS => ?_)
        have hP : va_P D cls [(h, .inr (ci, .int (nI kd) :: .int (nI mn) :: .int (nI w) :: .int (nI (nsF w mn)) :: .int (nI (dgt w (hpF w mn))) :: .int (nI 0) :: ex))] H := hP
        have hD : va_D A [(h, .inr (ci, .int (nI kd) :: .int (nI mn) :: .int (nI w) :: .int (nI (nsF w mn)) :: .int (nI (dgt w (hpF w mn))) :: .int (nI 0) :: ex))] := hD
        refine lv_aload_n hx hb d_Co_init_95 rfl (lv_at hl 3 rfl) ?_
        refine lv_iload hx hb d_Co_init_96 (lv_at hl 1 rfl) ?_
        refine r_putC C0 hK hP hD hS 0 rfl hci 5 (by decide) wt_185 (fun _ h => h) rfl hnm rfl (Nat.le_of_ble_eq_true rfl) d_Co_init_98 (fun H locs hP hD hS => ?_)
        have hP : va_P D cls [(h, .inr (ci, .int (nI kd) :: .int (nI mn) :: .int (nI w) :: .int (nI (nsF w mn)) :: .int (nI (dgt w (hpF w mn))) :: .int (nI (hpF w mn)) :: ex))] H := hP
        have hD : va_D A [(h, .inr (ci, .int (nI kd) :: .int (nI mn) :: .int (nI w) :: .int (nI (nsF w mn)) :: .int (nI (dgt w (hpF w mn))) :: .int (nI (hpF w mn)) :: ex))] := hD
        exact ret_v C0 hr hlk hAe hS () trivial hP hD (Nat.le_of_ble_eq_true rfl) (Nat.le_of_ble_eq_true rfl) d_Co_init_101
      · refine lv_iload hx hb d_Co_init_19 (lv_at hl 0 rfl) ?_
        refine lv_bipush (v := (nI 6)) hx hb d_Co_init_21 (by decide) ?_
        refine b_ge (tgt := 64) hx hb (by omega) (by decide) d_Co_init_23 (by decide) (fun c_23 => ?_) (fun c_23 => ?_)
        · exact absurd c_23 (by omega)
        · refine lv_iload hx hb d_Co_init_26 (lv_at hl 2 rfl) ?_
          refine lv_iconst (v := (nI 1)) hx hb d_Co_init_28 (by decide) ?_
          refine lv_iload_n hx hb d_Co_init_29 rfl (lv_at hl 6 rfl) ?_
          refine lv_iload hx hb d_Co_init_30 (lv_at hl 0 rfl) ?_
          refine call_i (rm := { frames := 0, cells := 0, slots := 0, locals := 0 }) hS hP hD hA (spl_mk (wc := []) (wr := [(h, .inr (ci, .int (nI 0) :: .int (nI 0) :: .int (nI 0) :: .int (nI 0) :: .int (nI 0) :: .int (nI 0) :: ex))]) [] [0] rfl rfl (by decide)) (run_sN (n := 2) (As := [.int (nI w), .int (nI i)]) (rest := [.int (nI 1), .int (nI (nsF w i))]) C0 (hK.sub [] rfl) (c_TC_digit l D cI H.size w i (by omega) (by omega)) wt_140 wt_1 wn_161 wt_139 (by decide +kernel) ⟨Nat.le_of_ble_eq_true rfl, Nat.le_of_ble_eq_true rfl⟩ rfl hl.1 rfl (Nat.le_of_ble_eq_true rfl) d_Co_init_32 ⟨Nat.le_of_ble_eq_true rfl, Nat.le_of_ble_eq_true rfl⟩) (fun r_32 _u32 H locs hw_32 hP hD hS => ?_)
          have hP : va_P D cls [(h, .inr (ci, .int (nI 0) :: .int (nI 0) :: .int (nI 0) :: .int (nI 0) :: .int (nI 0) :: .int (nI 0) :: ex))] H := hP
          have hD : va_D A [(h, .inr (ci, .int (nI 0) :: .int (nI 0) :: .int (nI 0) :: .int (nI 0) :: .int (nI 0) :: .int (nI 0) :: ex))] := hD
          subst hw_32
          have hd_32 := dgt_lt w i
          refine lv_ishl hx hb d_Co_init_35 ?_
          refine t_eq (y := (nI (1 * 2 ^ (dgt w i)))) (m_shl _ (by omega)) ?_
          refine lv_ior hx hb d_Co_init_36 ?_
          refine t_eq (y := (nI ((nsF w i) ||| (1 * 2 ^ (dgt w i))))) (m_or _ _) ?_
          refine t_eq (y := (nI (nsF w (i + 1)))) (by rw [Nat.one_mul]; rfl) ?_
          refine lv_istore (lv' := [(4, .int (nI (nsF w (i + 1)))), (6, .int (nI i)), (5, .int (nI (hpF w i))), (0, .ref h), (1, .int (nI kd)), (2, .int (nI mn)), (3, .int (nI w))]) hx hb d_Co_init_37 hl (by decide) rfl (fun ls hl => ?_)
          refine lv_iload_n hx hb d_Co_init_39 rfl (lv_at hl 6 rfl) ?_
          refine lv_iload hx hb d_Co_init_40 (lv_at hl 1 rfl) ?_
          refine call_i (rm := { frames := 0, cells := 0, slots := 0, locals := 0 }) hS hP hD hA (spl_mk (wc := []) (wr := [(h, .inr (ci, .int (nI 0) :: .int (nI 0) :: .int (nI 0) :: .int (nI 0) :: .int (nI 0) :: .int (nI 0) :: ex))]) [] [0] rfl rfl (by decide)) (run_sN (n := 2) (As := [.int (nI w), .int (nI i)]) (rest := []) C0 (hK.sub [] rfl) (c_TC_digit l D cI H.size w i (by omega) (by omega)) wt_140 wt_1 wn_161 wt_139 (by decide +kernel) ⟨Nat.le_of_ble_eq_true rfl, Nat.le_of_ble_eq_true rfl⟩ rfl hl.1 rfl (Nat.le_of_ble_eq_true rfl) d_Co_init_42 ⟨Nat.le_of_ble_eq_true rfl, Nat.le_of_ble_eq_true rfl⟩) (fun r_42 _u42 H locs hw_42 hP hD hS => ?_)
          have hP : va_P D cls [(h, .inr (ci, .int (nI 0) :: .int (nI 0) :: .int (nI 0) :: .int (nI 0) :: .int (nI 0) :: .int (nI 0) :: ex))] H := hP
          have hD : va_D A [(h, .inr (ci, .int (nI 0) :: .int (nI 0) :: .int (nI 0) :: .int (nI 0) :: .int (nI 0) :: .int (nI 0) :: ex))] := hD
          subst hw_42
          have hd_42 := dgt_lt w i
          try skip
          refine lv_iload_n hx hb d_Co_init_45 rfl (lv_at hl 6 rfl) ?_
          refine lv_iload hx hb d_Co_init_46 (lv_at hl 2 rfl) ?_
          refine call_i (rm := { frames := 0, cells := 0, slots := 0, locals := 0 }) hS hP hD hA (spl_mk (wc := []) (wr := [(h, .inr (ci, .int (nI 0) :: .int (nI 0) :: .int (nI 0) :: .int (nI 0) :: .int (nI 0) :: .int (nI 0) :: ex))]) [] [0] rfl rfl (by decide)) (run_sN (n := 2) (As := [.int (nI w), .int (nI (hpF w i))]) (rest := [.int (nI (dgt w i))]) C0 (hK.sub [] rfl) (c_TC_digit l D cI H.size w (hpF w i) (by omega) (by omega)) wt_140 wt_1 wn_161 wt_139 (by decide +kernel) ⟨Nat.le_of_ble_eq_true rfl, Nat.le_of_ble_eq_true rfl⟩ rfl hl.1 rfl (Nat.le_of_ble_eq_true rfl) d_Co_init_48 ⟨Nat.le_of_ble_eq_true rfl, Nat.le_of_ble_eq_true rfl⟩) (fun r_48 _u48 H locs hw_48 hP hD hS => ?_)
          have hP : va_P D cls [(h, .inr (ci, .int (nI 0) :: .int (nI 0) :: .int (nI 0) :: .int (nI 0) :: .int (nI 0) :: .int (nI 0) :: ex))] H := hP
          have hD : va_D A [(h, .inr (ci, .int (nI 0) :: .int (nI 0) :: .int (nI 0) :: .int (nI 0) :: .int (nI 0) :: .int (nI 0) :: ex))] := hD
          subst hw_48
          have hd_48 := dgt_lt w (hpF w i)
          refine b_le (tgt := 58) hx hb (by omega) (by omega) d_Co_init_51 (by decide) (fun c_51 => ?_) (fun c_51 => ?_)
          · have c_51 : dgt w i ≤ dgt w (hpF w i) := c_51
            have hl : lv_has ls 7 [(4, .int (nI (nsF w (i + 1)))), (6, .int (nI i)), (5, .int (nI (hpF w (i + 1)))), (0, .ref h), (1, .int (nI kd)), (2, .int (nI mn)), (3, .int (nI w))] := by rw [show hpF w (i + 1) = hpF w i from (by show (if _ then _ else _) = _; rw [if_neg (by show ¬ _ < _; omega)])]; exact hl
            refine lv_iinc (v := (nI (i + 1))) (lv' := [(6, .int (nI (i + 1))), (4, .int (nI (nsF w (i + 1)))), (5, .int (nI (hpF w (i + 1)))), (0, .ref h), (1, .int (nI kd)), (2, .int (nI mn)), (3, .int (nI w))]) hx hb d_Co_init_58 hl (k := 1) rfl (by exact nI_1 _) (by decide) rfl (fun ls hl => ?_)
            refine lv_goto (tgt := 13) hx hb d_Co_init_61 (by decide) ?_
            exact ih13 (i + 1) (by omega) (by omega) _ _ _ hP hD hS (lv_sub hl [0, 2, 1, 3, 4, 5, 6] rfl)
          · have c_51 : dgt w (hpF w i) < dgt w i := c_51
            refine lv_iload hx hb d_Co_init_54 (lv_at hl 1 rfl) ?_
            refine lv_istore (lv' := [(5, .int (nI i)), (4, .int (nI (nsF w (i + 1)))), (6, .int (nI i)), (0, .ref h), (1, .int (nI kd)), (2, .int (nI mn)), (3, .int (nI w))]) hx hb d_Co_init_56 hl (by decide) rfl (fun ls hl => ?_)
            have hl : lv_has ls 7 [(5, .int (nI (hpF w (i + 1)))), (4, .int (nI (nsF w (i + 1)))), (6, .int (nI i)), (0, .ref h), (1, .int (nI kd)), (2, .int (nI mn)), (3, .int (nI w))] := by rw [show hpF w (i + 1) = i from (by show (if _ then _ else _) = _; rw [if_pos c_51])]; exact hl
            refine lv_iinc (v := (nI (i + 1))) (lv' := [(6, .int (nI (i + 1))), (5, .int (nI (hpF w (i + 1)))), (4, .int (nI (nsF w (i + 1)))), (0, .ref h), (1, .int (nI kd)), (2, .int (nI mn)), (3, .int (nI w))]) hx hb d_Co_init_58 hl (k := 2) rfl (by exact nI_1 _) (by decide) rfl (fun ls hl => ?_)
            refine lv_goto (tgt := 13) hx hb d_Co_init_61 (by decide) ?_
            exact ih13 (i + 1) (by omega) (by omega) _ _ _ hP hD hS (lv_sub hl [0, 1, 2, 3, 4, 5, 6] rfl)
  exact L13 (mn + 1) 0 (by omega) (by omega) _ _ _ hP hD hS (lv_sub hl [0, 1, 2, 3, 4, 5, 6] rfl)
set_option maxHeartbeats 4000000 in
set_option maxRecDepth 100000 in
theorem c_Co_lay (l : Launch) (D : va_G) (cI : ClassId) (sz : Nat) (h : Nat) (ci : Nat) (ex : List Value) (kd : Nat) (mn : Nat) (w : Nat) (ns : Nat) (hn : Nat) (hq : Nat) (sa : Nat) (hp : Nat) (po : Nat) (pk : Nat) (pa : Nat) (pb : Nat) (pw : Nat) (ps : Nat) (tm : Nat) (se : Nat → Nat) (op : Nat → Nat) (kp : Nat → Nat) (hci : isC ci) (hmn : mn ≤ 6) (hw : w < 2147483648) (hdg : ∀ j, j < mn → dgt w j < 6) : MetV l y_Co_lay b_Co_lay 5 { frames := 1, cells := 0, slots := 0, locals := 21 } D cI [] sz [(h, .inr (ci, .int (nI kd) :: .int (nI mn) :: .int (nI w) :: .int (nI ns) :: .int (nI hn) :: .int (nI hq) :: ex)), (sa, .inl (cI, 6, .inl (nA se))), (hp, .inr (2, [.ref po, .ref pk, .ref pa, .ref pb, .ref pw, .ref ps, .int (nI tm)])), (po, .inl (cI, 6, .inl (nA op))), (pk, .inl (cI, 6, .inl (nA kp)))] [.ref h, .ref sa, .ref hp] (fun (u : (Nat → Nat) × (Nat → Nat)) => (∀ j, j < mn → u.1 j = se (dgt w j)) ∧ (∀ j, j < mn → u.2 j = 0) ∧ ∀ j, mn ≤ j → u.1 j = op j) (fun u : (Nat → Nat) × (Nat → Nat) => [(h, .inr (ci, .int (nI kd) :: .int (nI mn) :: .int (nI w) :: .int (nI ns) :: .int (nI hn) :: .int (nI hq) :: ex)), (sa, .inl (cI, 6, .inl (nA se))), (hp, .inr (2, [.ref po, .ref pk, .ref pa, .ref pb, .ref pw, .ref ps, .int (nI tm)])), (po, .inl (cI, 6, .inl (nA u.1))), (pk, .inl (cI, 6, .inl (nA u.2)))]) := by
  refine enter (by decide) (Nat.le_of_ble_eq_true rfl) ?_
  intro p e s m below meth c A ls C0 hr hlk hnm hK hsz hA hAe hP hD hS hl
  have hx := C0.1
  have hb := C0.2.1
  have hl : lv_has ls 5 [(0, .ref h), (1, .ref sa), (2, .ref hp)] := hl
  refine lv_iconst (v := (nI 0)) hx hb d_Co_lay_0 (by decide) ?_
  refine lv_istore_n (lv' := [(3, .int (nI 0)), (0, .ref h), (1, .ref sa), (2, .ref hp)]) hx hb d_Co_lay_1 rfl hl (by decide) rfl (fun ls hl => ?_)
  have L2 : ∀ (fuel2 : Nat) (i : Nat) (f : Nat → Nat) (g : Nat → Nat), (i ≤ mn) → (mn < i + fuel2) → (∀ j, j < i → f j = se (dgt w j)) → (∀ j, j < i → g j = 0) → (∀ j, i ≤ j → f j = op j) → ∀ (H : Heap) (locs : List Loc) (ls : Array Slot), va_P D cls [(h, .inr (ci, .int (nI kd) :: .int (nI mn) :: .int (nI w) :: .int (nI ns) :: .int (nI hn) :: .int (nI hq) :: ex)), (sa, .inl (cI, 6, .inl (nA se))), (hp, .inr (2, [.ref po, .ref pk, .ref pa, .ref pb, .ref pw, .ref ps, .int (nI tm)])), (po, .inl (cI, 6, .inl (nA f))), (pk, .inl (cI, 6, .inl (nA g)))] H → va_D A [(h, .inr (ci, .int (nI kd) :: .int (nI mn) :: .int (nI w) :: .int (nI ns) :: .int (nI hn) :: .int (nI hq) :: ex)), (sa, .inl (cI, 6, .inl (nA se))), (hp, .inr (2, [.ref po, .ref pk, .ref pa, .ref pb, .ref pw, .ref ps, .int (nI tm)])), (po, .inl (cI, 6, .inl (nA f))), (pk, .inl (cI, 6, .inl (nA g)))] → va_S A s.heap H locs → lv_has ls 5 [(3, .int (nI i)), (0, .ref h), (1, .ref sa), (2, .ref hp)] → W p l e { frames := 1, cells := 0, slots := 0, locals := 21 } s m ([.ref h, .ref sa, .ref hp] : List Value).toArray below meth c H locs 0 0 (MQ below (pstV D [(h, .inr (ci, .int (nI kd) :: .int (nI mn) :: .int (nI w) :: .int (nI ns) :: .int (nI hn) :: .int (nI hq) :: ex)), (sa, .inl (cI, 6, .inl (nA se))), (hp, .inr (2, [.ref po, .ref pk, .ref pa, .ref pb, .ref pw, .ref ps, .int (nI tm)])), (po, .inl (cI, 6, .inl (nA op))), (pk, .inl (cI, 6, .inl (nA kp)))] sz (fun (u : (Nat → Nat) × (Nat → Nat)) => (∀ j, j < mn → u.1 j = se (dgt w j)) ∧ (∀ j, j < mn → u.2 j = 0) ∧ ∀ j, mn ≤ j → u.1 j = op j) (fun u : (Nat → Nat) × (Nat → Nat) => [(h, .inr (ci, .int (nI kd) :: .int (nI mn) :: .int (nI w) :: .int (nI ns) :: .int (nI hn) :: .int (nI hq) :: ex)), (sa, .inl (cI, 6, .inl (nA se))), (hp, .inr (2, [.ref po, .ref pk, .ref pa, .ref pb, .ref pw, .ref ps, .int (nI tm)])), (po, .inl (cI, 6, .inl (nA u.1))), (pk, .inl (cI, 6, .inl (nA u.2)))])) ([.ref h, .ref sa, .ref hp] : List Value).toArray s 0 0 A) (F0 m 2 ls []) := by
    intro fuel2
    induction fuel2 with
    | zero => intros; omega
    | succ fuel2 ih2 =>
      intro i f g hi hfu hf hg hfo H locs ls hP hD hS hl
      refine lv_iload_n hx hb d_Co_lay_2 rfl (lv_at hl 0 rfl) ?_
      refine lv_aload_n hx hb d_Co_lay_3 rfl (lv_at hl 1 rfl) ?_
      refine r_getC C0 hK hP 0 rfl hci 1 (by decide) wt_166 (fun _ h => h) rfl d_Co_lay_4 ?_
      refine b_ge (tgt := 60) hx hb (by omega) (by omega) d_Co_lay_7 (by decide) (fun c_7 => ?_) (fun c_7 => ?_)
      · exact ret_v C0 hr hlk hAe hS (f, g) (by obtain rfl : i = mn := (by omega); exact ⟨hf, hg, hfo⟩) hP hD (Nat.le_of_ble_eq_true rfl) (Nat.le_of_ble_eq_true rfl) d_Co_lay_60
      · refine lv_iload_n hx hb d_Co_lay_10 rfl (lv_at hl 0 rfl) ?_
        refine lv_bipush (v := (nI 6)) hx hb d_Co_lay_11 (by decide) ?_
        refine b_ge (tgt := 60) hx hb (by omega) (by decide) d_Co_lay_13 (by decide) (fun c_13 => ?_) (fun c_13 => ?_)
        · exact ret_v C0 hr hlk hAe hS (f, g) (by obtain rfl : i = mn := (by omega); exact ⟨hf, hg, hfo⟩) hP hD (Nat.le_of_ble_eq_true rfl) (Nat.le_of_ble_eq_true rfl) d_Co_lay_60
        · refine lv_aload_n hx hb d_Co_lay_16 rfl (lv_at hl 1 rfl) ?_
          refine r_getC C0 hK hP 0 rfl hci 2 (by decide) wt_179 (fun _ h => h) rfl d_Co_lay_17 ?_
          refine lv_iload_n hx hb d_Co_lay_20 rfl (lv_at hl 0 rfl) ?_
          refine call_i (rm := { frames := 0, cells := 0, slots := 0, locals := 0 }) hS hP hD hA (spl_mk (wc := []) (wr := [(h, .inr (ci, .int (nI kd) :: .int (nI mn) :: .int (nI w) :: .int (nI ns) :: .int (nI hn) :: .int (nI hq) :: ex)), (sa, .inl (cI, 6, .inl (nA se))), (hp, .inr (2, [.ref po, .ref pk, .ref pa, .ref pb, .ref pw, .ref ps, .int (nI tm)])), (po, .inl (cI, 6, .inl (nA f))), (pk, .inl (cI, 6, .inl (nA g)))]) [] [0, 1, 2, 3, 4] rfl rfl (by decide)) (run_sN (n := 2) (As := [.int (nI w), .int (nI i)]) (rest := []) C0 (hK.sub [] rfl) (c_TC_digit l D cI H.size w i (by omega) (by omega)) wt_140 wt_1 wn_161 wt_139 (by decide +kernel) ⟨Nat.le_of_ble_eq_true rfl, Nat.le_of_ble_eq_true rfl⟩ rfl hl.1 rfl (Nat.le_of_ble_eq_true rfl) d_Co_lay_21 ⟨Nat.le_of_ble_eq_true rfl, Nat.le_of_ble_eq_true rfl⟩) (fun r_21 _u21 H locs hw_21 hP hD hS => ?_)
          have hP : va_P D cls [(h, .inr (ci, .int (nI kd) :: .int (nI mn) :: .int (nI w) :: .int (nI ns) :: .int (nI hn) :: .int (nI hq) :: ex)), (sa, .inl (cI, 6, .inl (nA se))), (hp, .inr (2, [.ref po, .ref pk, .ref pa, .ref pb, .ref pw, .ref ps, .int (nI tm)])), (po, .inl (cI, 6, .inl (nA f))), (pk, .inl (cI, 6, .inl (nA g)))] H := hP
          have hD : va_D A [(h, .inr (ci, .int (nI kd) :: .int (nI mn) :: .int (nI w) :: .int (nI ns) :: .int (nI hn) :: .int (nI hq) :: ex)), (sa, .inl (cI, 6, .inl (nA se))), (hp, .inr (2, [.ref po, .ref pk, .ref pa, .ref pb, .ref pw, .ref ps, .int (nI tm)])), (po, .inl (cI, 6, .inl (nA f))), (pk, .inl (cI, 6, .inl (nA g)))] := hD
          subst hw_21
          have hd_21 := dgt_lt w i
          have hdi := hdg i (by omega)
          refine lv_istore (lv' := [(4, .int (nI (dgt w i))), (3, .int (nI i)), (0, .ref h), (1, .ref sa), (2, .ref hp)]) hx hb d_Co_lay_24 hl (by decide) rfl (fun ls hl => ?_)
          refine lv_aload_n hx hb d_Co_lay_26 rfl (lv_at hl 4 rfl) ?_
          refine r_get C0 hK hP 2 rfl rfl i_Pl 0 (by decide) wt_55 (fun _ h => h) rfl d_Co_lay_27 ?_
          refine lv_iload_n hx hb d_Co_lay_30 rfl (lv_at hl 1 rfl) ?_
          refine lv_iload hx hb d_Co_lay_31 (lv_at hl 0 rfl) ?_
          refine lv_aload_n hx hb d_Co_lay_33 rfl (lv_at hl 3 rfl) ?_
          refine va_alen (v := nI 6) hx hb hK.1 hP 1 0 rfl rfl rfl d_Co_lay_34 ?_
          refine b_ge (tgt := 45) hx hb (by omega) (by decide) d_Co_lay_35 (by decide) (fun c_35 => ?_) (fun c_35 => ?_)
          · exact absurd c_35 (by omega)
          · refine lv_aload_n hx hb d_Co_lay_38 rfl (lv_at hl 3 rfl) ?_
            refine lv_iload hx hb d_Co_lay_39 (lv_at hl 0 rfl) ?_
            refine r_ald C0 hK hP 1 rfl (by omega) (by decide) d_Co_lay_41 ?_
            refine t_eq (y := (nI (se (dgt w i)))) rfl ?_
            refine lv_goto (tgt := 46) hx hb d_Co_lay_42 (by decide) ?_
            refine r_astN C0 hK hP hD hS 3 rfl (by omega) (by decide) d_Co_lay_46 (fun H locs hP hD hS => ?_)
            have hP : va_P D cls [(h, .inr (ci, .int (nI kd) :: .int (nI mn) :: .int (nI w) :: .int (nI ns) :: .int (nI hn) :: .int (nI hq) :: ex)), (sa, .inl (cI, 6, .inl (nA se))), (hp, .inr (2, [.ref po, .ref pk, .ref pa, .ref pb, .ref pw, .ref ps, .int (nI tm)])), (po, .inl (cI, 6, .inl (nA (va_up f i (se (dgt w i)))))), (pk, .inl (cI, 6, .inl (nA g)))] H := hP
            have hD : va_D A [(h, .inr (ci, .int (nI kd) :: .int (nI mn) :: .int (nI w) :: .int (nI ns) :: .int (nI hn) :: .int (nI hq) :: ex)), (sa, .inl (cI, 6, .inl (nA se))), (hp, .inr (2, [.ref po, .ref pk, .ref pa, .ref pb, .ref pw, .ref ps, .int (nI tm)])), (po, .inl (cI, 6, .inl (nA (va_up f i (se (dgt w i)))))), (pk, .inl (cI, 6, .inl (nA g)))] := hD
            refine lv_aload_n hx hb d_Co_lay_47 rfl (lv_at hl 4 rfl) ?_
            refine r_get C0 hK hP 2 rfl rfl i_Pl 1 (by decide) wt_60 (fun _ h => h) rfl d_Co_lay_48 ?_
            refine lv_iload_n hx hb d_Co_lay_51 rfl (lv_at hl 1 rfl) ?_
            refine lv_iconst (v := (nI 0)) hx hb d_Co_lay_52 (by decide) ?_
            refine r_astN C0 hK hP hD hS 4 rfl (by omega) (by decide) d_Co_lay_53 (fun H locs hP hD hS => ?_)
            have hP : va_P D cls [(h, .inr (ci, .int (nI kd) :: .int (nI mn) :: .int (nI w) :: .int (nI ns) :: .int (nI hn) :: .int (nI hq) :: ex)), (sa, .inl (cI, 6, .inl (nA se))), (hp, .inr (2, [.ref po, .ref pk, .ref pa, .ref pb, .ref pw, .ref ps, .int (nI tm)])), (po, .inl (cI, 6, .inl (nA (va_up f i (se (dgt w i)))))), (pk, .inl (cI, 6, .inl (nA (va_up g i 0))))] H := hP
            have hD : va_D A [(h, .inr (ci, .int (nI kd) :: .int (nI mn) :: .int (nI w) :: .int (nI ns) :: .int (nI hn) :: .int (nI hq) :: ex)), (sa, .inl (cI, 6, .inl (nA se))), (hp, .inr (2, [.ref po, .ref pk, .ref pa, .ref pb, .ref pw, .ref ps, .int (nI tm)])), (po, .inl (cI, 6, .inl (nA (va_up f i (se (dgt w i)))))), (pk, .inl (cI, 6, .inl (nA (va_up g i 0))))] := hD
            refine lv_iinc (v := (nI (i + 1))) (lv' := [(3, .int (nI (i + 1))), (4, .int (nI (dgt w i))), (0, .ref h), (1, .ref sa), (2, .ref hp)]) hx hb d_Co_lay_54 hl (k := 1) rfl (by exact nI_1 _) (by decide) rfl (fun ls hl => ?_)
            refine lv_goto (tgt := 2) hx hb d_Co_lay_57 (by decide) ?_
            exact ih2 (i + 1) (va_up f i (se (dgt w i))) (va_up g i 0) (by omega) (by omega) (up_eq (h := fun j => se (dgt w j)) hf rfl) (up_eq (h := fun _ => 0) hg rfl) (fun j hj => by rw [va_up_ne _ _ (by omega)]; exact hfo j (by omega)) _ _ _ hP hD hS (lv_sub hl [0, 2, 3, 4] rfl)
  exact L2 (mn + 1) 0 op kp (by omega) (by omega) (fun _ h => absurd h (Nat.not_lt_zero _)) (fun _ h => absurd h (Nat.not_lt_zero _)) (fun _ _ => rfl) _ _ _ hP hD hS (lv_sub hl [0, 1, 2, 3] rfl)
