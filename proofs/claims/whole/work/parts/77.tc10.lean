theorem ix_c {x : Int32} {m : Nat} (hm : m ≤ 1000) : ixN x m = none ∨ ∃ j, j < m ∧ x = nI j ∧ ixN x m = some j := by
  by_cases g : 0 ≤ x.toInt ∧ x.toInt < (m : Int)
  · exact Or.inr (ix_of (by omega) g)
  · exact Or.inl (ix_none g)
theorem ex_one {op : Nat → Nat} {n w : Nat} {al : (Nat → Nat) → Bool} (hl : lowF n al) (ho : ∀ j, j < n → op j = 2 ^ dgt w j) (h6 : ∀ j, j < n → dgt w j < 6) : exW op n al ↔ al (fun j => dgt w j) = true := by
  constructor
  · rintro ⟨u, hu, h⟩
    rw [← h]
    refine hl _ _ (fun j hj => ?_)
    have q := (hu j hj).2
    rw [ho j hj, two_bit] at q
    exact q
  · intro h
    exact ⟨fun j => dgt w j, fun j hj => ⟨h6 j hj, by rw [ho j hj]; exact two_bit.mpr rfl⟩, h⟩
def ctK (K : Nat → KD) (AL : Nat → (Nat → Nat) → Bool) (dm : Nat → Nat) (j : Nat) : Nat := cR (fun i => dm (dgt (K j).row i)) (K j).n 0 (fun u => if AL j u = true then 1 else 0) (fun _ => 0)
set_option maxHeartbeats 4000000 in
set_option maxRecDepth 100000 in
theorem c_TC_tuple (l : Launch) (D : va_G) (cI : ClassId) (sz : Nat) (cM : ClassId) (cK : ClassId) (h : Nat) (an : Nat) (am : Nat) (ak : Nat) (ap : Nat) (ac : Nat) (nm : Nat) (cs : Nat) (mk : Nat) (lr : Nat) (kf : Nat → Option Nat) (K : Nat → KD) (x : Int32) (y : Int32) (hcs : cs ≤ 10) (hkf : ∀ i, i < cs → kf i = some (K i).ad) (hkk : ∀ i, i < cs → kok (K i)) : MetI l y_TC_tuple b_TC_tuple 5 (some .int) { frames := 3, cells := 0, slots := 0, locals := 66 } D cI (tyT cM cK) sz ([(h, .inr (0, [.ref an, .ref am, .ref ak, .ref ap, .ref ac, .int (nI nm), .int (nI cs), .int (nI mk), .int (nI lr)])), (ak, .inl (cK, 10, .inr (.inr (.inr (.inr kf)))))] ++ (pool cI K cs)) [.ref h, .int x, .int y] (fun (r : Int32) (u : Nat → KD) => (r, u) = tuK K (oTu (fun i0 => (K i0).kd) (fun i0 => (K i0).n) cs x y)) (fun u : Nat → KD => ([(h, .inr (0, [.ref an, .ref am, .ref ak, .ref ap, .ref ac, .int (nI nm), .int (nI cs), .int (nI mk), .int (nI lr)])), (ak, .inl (cK, 10, .inr (.inr (.inr (.inr kf)))))] ++ (pool cI u cs))) := by
  refine enter (by decide) (Nat.le_of_ble_eq_true rfl) ?_
  intro p e s m below meth c A ls C0 hr hlk hnm hK hsz hA hAe hP hD hS hl
  have hx := C0.1
  have hb := C0.2.1
  have hl : lv_has ls 5 [(0, .ref h), (1, .int x), (2, .int y)] := hl
  refine lv_aload_n hx hb d_TC_tuple_0 rfl (lv_at hl 0 rfl) ?_
  refine lv_iload_n hx hb d_TC_tuple_1 rfl (lv_at hl 1 rfl) ?_
  refine call_q (rm := { frames := 1, cells := 0, slots := 0, locals := 22 }) hS hP hD hA (spl_app (pool cI K cs) (spl_mk (wc := [(h, .inr (0, [.ref an, .ref am, .ref ak, .ref ap, .ref ac, .int (nI nm), .int (nI cs), .int (nI mk), .int (nI lr)])), (ak, .inl (cK, 10, .inr (.inr (.inr (.inr kf)))))]) (wr := []) [0, 1] [] rfl rfl (by decide))) (run_v (n := 1) (As := [.int x]) (rest := []) (q0 := 0) (ci := 0) C0 hK (c_TC_constraintAt l D cI s.heap.size cM cK h an am ak ap ac nm cs mk lr kf x hcs) rfl rfl wt_215 wt_1 wt_212 wt_214 wp_4 (by decide +kernel) ⟨Nat.le_of_ble_eq_true rfl, Nat.le_of_ble_eq_true rfl⟩ rfl hl.1 rfl (Nat.le_of_ble_eq_true rfl) d_TC_tuple_2 ⟨Nat.le_of_ble_eq_true rfl, Nat.le_of_ble_eq_true rfl⟩) (fun r_2 _u2 H locs hw_2 hP hD hS => ?_)
  have hP := hP.perm (pT _ _ _)
  have hD := hD.perm (pT _ _ _)
  have hP : va_P D cls ([(h, .inr (0, [.ref an, .ref am, .ref ak, .ref ap, .ref ac, .int (nI nm), .int (nI cs), .int (nI mk), .int (nI lr)])), (ak, .inl (cK, 10, .inr (.inr (.inr (.inr kf)))))] ++ (pool cI K cs)) H := hP
  have hD : va_D A ([(h, .inr (0, [.ref an, .ref am, .ref ak, .ref ap, .ref ac, .int (nI nm), .int (nI cs), .int (nI mk), .int (nI lr)])), (ak, .inl (cK, 10, .inr (.inr (.inr (.inr kf)))))] ++ (pool cI K cs)) := hD
  rcases ix_c (x := x) (m := cs) (by omega) with hin | ⟨jq, hjq, hxj, hij⟩
  · refine t_qn (by rw [hw_2, hin]; rfl) ?_
    refine lv_astore_nN (lv' := [(3, .null), (0, .ref h), (1, .int x), (2, .int y)]) hx hb d_TC_tuple_5 rfl hl (by decide) rfl (fun ls hl => ?_)
    refine lv_aload_nN hx hb d_TC_tuple_6 rfl (lv_at hl 0 rfl) ?_
    refine lv_instN hx hb d_TC_tuple_7 ?_
    refine t_eq (y := nI 0) rfl ?_
    refine z_eq (tgt := 39) hx hb (by decide) d_TC_tuple_10 (by decide) (fun c_10 => ?_) (fun c_10 => ?_)
    · refine lv_bipush (v := (-2)) hx hb d_TC_tuple_39 (by decide) ?_
      exact ret_i C0 hr hlk hAe hS K (by first | (rw [show oTu (fun i0 => (K i0).kd) (fun i0 => (K i0).n) cs x y = none by unfold oTu; rw [hin]; rfl]; rfl) | (rw [show oTu (fun i0 => (K i0).kd) (fun i0 => (K i0).n) cs x y = none by unfold oTu; rw [hij]; show (if _ then _ else _) = _; rw [if_neg (fun q => hk0 q.1)]]; rfl) | (rw [show oTu (fun i0 => (K i0).kd) (fun i0 => (K i0).n) cs x y = none by unfold oTu; rw [hij]; show (if _ then _ else _) = _; rw [if_neg (fun q => absurd (c_29.symm.trans q.2) (by decide))]]; rfl)) hP hD rfl (Nat.le_of_ble_eq_true rfl) (Nat.le_of_ble_eq_true rfl) d_TC_tuple_41
    · exact absurd rfl c_10
  · refine t_q (a := (K jq).ad) (by rw [hw_2, hij]; exact hkf jq hjq) ?_
    have hko := hkk jq hjq
    have hnb := hko.2.1
    obtain ⟨RR, hRR, hRR2⟩ := pool_at cI K (cs := cs) (i := jq) hjq
    have hP : va_P D cls ([(h, .inr (0, [.ref an, .ref am, .ref ak, .ref ap, .ref ac, .int (nI nm), .int (nI cs), .int (nI mk), .int (nI lr)])), (ak, .inl (cK, 10, .inr (.inr (.inr (.inr kf))))), ((K jq).ad, .inr ((K jq).kd + 3, .int (nI ((K jq).kd)) :: .int (nI ((K jq).n)) :: .int (nI ((K jq).row)) :: .int (nI (nsF (K jq).row (K jq).n)) :: .int (nI (dgt (K jq).row (hpF (K jq).row (K jq).n))) :: .int (nI (hpF (K jq).row (K jq).n)) :: xk (K jq)))] ++ (km cI (K jq) ++ RR)) H := hP.perm (List.Perm.append_left _ hRR)
    have hD : va_D A ([(h, .inr (0, [.ref an, .ref am, .ref ak, .ref ap, .ref ac, .int (nI nm), .int (nI cs), .int (nI mk), .int (nI lr)])), (ak, .inl (cK, 10, .inr (.inr (.inr (.inr kf))))), ((K jq).ad, .inr ((K jq).kd + 3, .int (nI ((K jq).kd)) :: .int (nI ((K jq).n)) :: .int (nI ((K jq).row)) :: .int (nI (nsF (K jq).row (K jq).n)) :: .int (nI (dgt (K jq).row (hpF (K jq).row (K jq).n))) :: .int (nI (hpF (K jq).row (K jq).n)) :: xk (K jq)))] ++ (km cI (K jq) ++ RR)) := hD.perm (List.Perm.append_left _ hRR)
    refine lv_astore_n (lv' := [(3, .ref ((K jq).ad)), (0, .ref h), (1, .int x), (2, .int y)]) hx hb d_TC_tuple_5 rfl hl (by decide) rfl (fun ls hl => ?_)
    refine lv_aload_n hx hb d_TC_tuple_6 rfl (lv_at hl 0 rfl) ?_
    refine vk_inst0 (κ := (K jq)) C0 hK hko hP 2 rfl d_TC_tuple_7 (fun hk0 => ?_) (fun hk0 => ?_)
    · refine t_eq (y := nI 1) rfl ?_
      refine z_eq (tgt := 39) hx hb (by decide) d_TC_tuple_10 (by decide) (fun c_10 => ?_) (fun c_10 => ?_)
      · exact absurd c_10 (by decide)
      · refine lv_aload_n hx hb d_TC_tuple_13 rfl (lv_at hl 0 rfl) ?_
        refine vk_cast0 (κ := (K jq)) C0 hK hk0 hP 2 rfl d_TC_tuple_14 ?_
        refine lv_astore (lv' := [(4, .ref ((K jq).ad)), (3, .ref ((K jq).ad)), (0, .ref h), (1, .int x), (2, .int y)]) hx hb d_TC_tuple_17 hl (by decide) rfl (fun ls hl => ?_)
        refine lv_aload hx hb d_TC_tuple_19 (lv_at hl 0 rfl) ?_
        refine r_getC C0 hK hP 2 rfl (kci hko) 1 (by decide) wt_175 (fun x h => u_same (C0.2.2.2.2 _ wt_172) x h) rfl d_TC_tuple_21 ?_
        refine lv_iload_n hx hb d_TC_tuple_24 rfl (lv_at hl 4 rfl) ?_
        refine lv_iconst (v := (bI true)) hx hb d_TC_tuple_25 (by decide) ?_
        refine call_i (rm := { frames := 2, cells := 0, slots := 0, locals := 42 }) hS hP hD hA (spl_app (km cI (K jq) ++ RR) (spl_mk (wc := []) (wr := [(h, .inr (0, [.ref an, .ref am, .ref ak, .ref ap, .ref ac, .int (nI nm), .int (nI cs), .int (nI mk), .int (nI lr)])), (ak, .inl (cK, 10, .inr (.inr (.inr (.inr kf))))), ((K jq).ad, .inr ((K jq).kd + 3, .int (nI ((K jq).kd)) :: .int (nI ((K jq).n)) :: .int (nI ((K jq).row)) :: .int (nI (nsF (K jq).row (K jq).n)) :: .int (nI (dgt (K jq).row (hpF (K jq).row (K jq).n))) :: .int (nI (hpF (K jq).row (K jq).n)) :: xk (K jq)))]) [] [0, 1, 2] rfl rfl (by decide))) (run_s (n := 3) (As := [.int (nI ((K jq).n)), .int y, .int (bI true)]) (rest := []) C0 (hK.sub [] rfl) (c_TC_isWord l D cI H.size ((K jq).n) y true hnb.2) wt_218 wt_1 wt_216 wt_217 (by decide +kernel) ⟨Nat.le_of_ble_eq_true rfl, Nat.le_of_ble_eq_true rfl⟩ rfl hl.1 rfl (Nat.le_of_ble_eq_true rfl) d_TC_tuple_26 ⟨Nat.le_of_ble_eq_true rfl, Nat.le_of_ble_eq_true rfl⟩) (fun r_26 _u26 H locs hw_26 hP hD hS => ?_)
        have hP := hP.perm (pT _ _ _)
        have hD := hD.perm (pT _ _ _)
        have hP : va_P D cls ([(h, .inr (0, [.ref an, .ref am, .ref ak, .ref ap, .ref ac, .int (nI nm), .int (nI cs), .int (nI mk), .int (nI lr)])), (ak, .inl (cK, 10, .inr (.inr (.inr (.inr kf))))), ((K jq).ad, .inr ((K jq).kd + 3, .int (nI ((K jq).kd)) :: .int (nI ((K jq).n)) :: .int (nI ((K jq).row)) :: .int (nI (nsF (K jq).row (K jq).n)) :: .int (nI (dgt (K jq).row (hpF (K jq).row (K jq).n))) :: .int (nI (hpF (K jq).row (K jq).n)) :: xk (K jq)))] ++ (km cI (K jq) ++ RR)) H := hP
        have hD : va_D A ([(h, .inr (0, [.ref an, .ref am, .ref ak, .ref ap, .ref ac, .int (nI nm), .int (nI cs), .int (nI mk), .int (nI lr)])), (ak, .inl (cK, 10, .inr (.inr (.inr (.inr kf))))), ((K jq).ad, .inr ((K jq).kd + 3, .int (nI ((K jq).kd)) :: .int (nI ((K jq).n)) :: .int (nI ((K jq).row)) :: .int (nI (nsF (K jq).row (K jq).n)) :: .int (nI (dgt (K jq).row (hpF (K jq).row (K jq).n))) :: .int (nI (hpF (K jq).row (K jq).n)) :: xk (K jq)))] ++ (km cI (K jq) ++ RR)) := hD
        subst hw_26
        refine y_eq (tgt := 39) hx hb d_TC_tuple_29 (by decide) (fun c_29 => ?_) (fun c_29 => ?_)
        · have hP : va_P D cls ([(h, .inr (0, [.ref an, .ref am, .ref ak, .ref ap, .ref ac, .int (nI nm), .int (nI cs), .int (nI mk), .int (nI lr)])), (ak, .inl (cK, 10, .inr (.inr (.inr (.inr kf)))))] ++ (pool cI K cs)) H := (show va_P D cls ([(h, .inr (0, [.ref an, .ref am, .ref ak, .ref ap, .ref ac, .int (nI nm), .int (nI cs), .int (nI mk), .int (nI lr)])), (ak, .inl (cK, 10, .inr (.inr (.inr (.inr kf)))))] ++ (kc cI (K jq) ++ RR)) H from hP).perm (List.Perm.append_left _ hRR.symm)
          have hD : va_D A ([(h, .inr (0, [.ref an, .ref am, .ref ak, .ref ap, .ref ac, .int (nI nm), .int (nI cs), .int (nI mk), .int (nI lr)])), (ak, .inl (cK, 10, .inr (.inr (.inr (.inr kf)))))] ++ (pool cI K cs)) := (show va_D A ([(h, .inr (0, [.ref an, .ref am, .ref ak, .ref ap, .ref ac, .int (nI nm), .int (nI cs), .int (nI mk), .int (nI lr)])), (ak, .inl (cK, 10, .inr (.inr (.inr (.inr kf)))))] ++ (kc cI (K jq) ++ RR)) from hD).perm (List.Perm.append_left _ hRR.symm)
          refine lv_bipush (v := (-2)) hx hb d_TC_tuple_39 (by decide) ?_
          exact ret_i C0 hr hlk hAe hS K (by first | (rw [show oTu (fun i0 => (K i0).kd) (fun i0 => (K i0).n) cs x y = none by unfold oTu; rw [hin]; rfl]; rfl) | (rw [show oTu (fun i0 => (K i0).kd) (fun i0 => (K i0).n) cs x y = none by unfold oTu; rw [hij]; show (if _ then _ else _) = _; rw [if_neg (fun q => hk0 q.1)]]; rfl) | (rw [show oTu (fun i0 => (K i0).kd) (fun i0 => (K i0).n) cs x y = none by unfold oTu; rw [hij]; show (if _ then _ else _) = _; rw [if_neg (fun q => absurd (c_29.symm.trans q.2) (by decide))]]; rfl)) hP hD rfl (Nat.le_of_ble_eq_true rfl) (Nat.le_of_ble_eq_true rfl) d_TC_tuple_41
        · obtain ⟨w, hwp, hw18, hxw, hiw, hal⟩ := word_t hnb.2 c_29
          have hl : lv_has ls 5 [(4, .ref ((K jq).ad)), (3, .ref ((K jq).ad)), (0, .ref h), (1, .int x), (2, .int (nI w))] := by rw [← hxw]; exact hl
          have hoc : oTu (fun i0 => (K i0).kd) (fun i0 => (K i0).n) cs x y = some (jq, w) := by unfold oTu; rw [hij]; show (if _ then _ else _) = _; rw [if_pos ⟨hk0, c_29⟩, hiw]; rfl
          have hP : va_P D cls ([(h, .inr (0, [.ref an, .ref am, .ref ak, .ref ap, .ref ac, .int (nI nm), .int (nI cs), .int (nI mk), .int (nI lr)])), (ak, .inl (cK, 10, .inr (.inr (.inr (.inr kf)))))] ++ (kc cI (K jq) ++ RR)) H := hP
          have hD : va_D A ([(h, .inr (0, [.ref an, .ref am, .ref ak, .ref ap, .ref ac, .int (nI nm), .int (nI cs), .int (nI mk), .int (nI lr)])), (ak, .inl (cK, 10, .inr (.inr (.inr (.inr kf)))))] ++ (kc cI (K jq) ++ RR)) := hD
          rw [kc_0 hk0] at hP hD
          have hP : va_P D cls ([(h, .inr (0, [.ref an, .ref am, .ref ak, .ref ap, .ref ac, .int (nI nm), .int (nI cs), .int (nI mk), .int (nI lr)])), (ak, .inl (cK, 10, .inr (.inr (.inr (.inr kf))))), ((K jq).ad, .inr (3, [.int (nI ((K jq).kd)), .int (nI ((K jq).n)), .int (nI ((K jq).row)), .int (nI (nsF (K jq).row (K jq).n)), .int (nI (dgt (K jq).row (hpF (K jq).row (K jq).n))), .int (nI (hpF (K jq).row (K jq).n)), .ref ((K jq).a1), .int (nI ((K jq).m))])), ((K jq).a1, .inl (cI, 36, .inl (nA ((K jq).f1))))] ++ RR) H := hP
          have hD : va_D A ([(h, .inr (0, [.ref an, .ref am, .ref ak, .ref ap, .ref ac, .int (nI nm), .int (nI cs), .int (nI mk), .int (nI lr)])), (ak, .inl (cK, 10, .inr (.inr (.inr (.inr kf))))), ((K jq).ad, .inr (3, [.int (nI ((K jq).kd)), .int (nI ((K jq).n)), .int (nI ((K jq).row)), .int (nI (nsF (K jq).row (K jq).n)), .int (nI (dgt (K jq).row (hpF (K jq).row (K jq).n))), .int (nI (hpF (K jq).row (K jq).n)), .ref ((K jq).a1), .int (nI ((K jq).m))])), ((K jq).a1, .inl (cI, 36, .inl (nA ((K jq).f1))))] ++ RR) := hD
          refine lv_aload hx hb d_TC_tuple_32 (lv_at hl 0 rfl) ?_
          refine lv_iload_n hx hb d_TC_tuple_34 rfl (lv_at hl 4 rfl) ?_
          refine call_i (rm := { frames := 1, cells := 0, slots := 0, locals := 21 }) hS hP hD hA (spl_app RR (spl_mk (wc := [((K jq).ad, .inr (3, [.int (nI ((K jq).kd)), .int (nI ((K jq).n)), .int (nI ((K jq).row)), .int (nI (nsF (K jq).row (K jq).n)), .int (nI (dgt (K jq).row (hpF (K jq).row (K jq).n))), .int (nI (hpF (K jq).row (K jq).n)), .ref ((K jq).a1), .int (nI ((K jq).m))])), ((K jq).a1, .inl (cI, 36, .inl (nA ((K jq).f1))))]) (wr := [(h, .inr (0, [.ref an, .ref am, .ref ak, .ref ap, .ref ac, .int (nI nm), .int (nI cs), .int (nI mk), .int (nI lr)])), (ak, .inl (cK, 10, .inr (.inr (.inr (.inr kf)))))]) [2, 3] [0, 1] rfl rfl (by decide))) (run_v (n := 1) (As := [.int (nI w)]) (rest := []) (q0 := 0) (ci := 3) C0 (hK.sub [] rfl) (c_Ta_put l D cI H.size ((K jq).ad) ((K jq).kd) ((K jq).n) ((K jq).row) (nsF (K jq).row (K jq).n) (dgt (K jq).row (hpF (K jq).row (K jq).n)) (hpF (K jq).row (K jq).n) ((K jq).a1) ((K jq).m) ((K jq).f1) w hnb.2 (hko.2.2.2.1 hk0).1 (by omega)) rfl rfl wt_225 wt_6 wt_222 wt_223 wt_224 (by decide +kernel) ⟨Nat.le_of_ble_eq_true rfl, Nat.le_of_ble_eq_true rfl⟩ rfl hl.1 rfl (Nat.le_of_ble_eq_true rfl) d_TC_tuple_35 ⟨Nat.le_of_ble_eq_true rfl, Nat.le_of_ble_eq_true rfl⟩) (fun r_35 u_35 H locs hw_35 hP hD hS => ?_)
          have hP := hP.perm (pT _ _ _)
          have hD := hD.perm (pT _ _ _)
          have hP : va_P D cls ([(h, .inr (0, [.ref an, .ref am, .ref ak, .ref ap, .ref ac, .int (nI nm), .int (nI cs), .int (nI mk), .int (nI lr)])), (ak, .inl (cK, 10, .inr (.inr (.inr (.inr kf))))), (((K jq).ad), .inr (3, [.int (nI ((K jq).kd)), .int (nI ((K jq).n)), .int (nI ((K jq).row)), .int (nI (nsF (K jq).row (K jq).n)), .int (nI (dgt (K jq).row (hpF (K jq).row (K jq).n))), .int (nI (hpF (K jq).row (K jq).n)), .ref ((K jq).a1), .int (nI u_35.2)])), (((K jq).a1), .inl (cI, 36, .inl (nA u_35.1)))] ++ RR) H := hP
          have hD : va_D A ([(h, .inr (0, [.ref an, .ref am, .ref ak, .ref ap, .ref ac, .int (nI nm), .int (nI cs), .int (nI mk), .int (nI lr)])), (ak, .inl (cK, 10, .inr (.inr (.inr (.inr kf))))), (((K jq).ad), .inr (3, [.int (nI ((K jq).kd)), .int (nI ((K jq).n)), .int (nI ((K jq).row)), .int (nI (nsF (K jq).row (K jq).n)), .int (nI (dgt (K jq).row (hpF (K jq).row (K jq).n))), .int (nI (hpF (K jq).row (K jq).n)), .ref ((K jq).a1), .int (nI u_35.2)])), (((K jq).a1), .inl (cI, 36, .inl (nA u_35.1)))] ++ RR) := hD
          rcases hw_35 with ⟨h1, h2, h3⟩ | ⟨h1, h2, h3⟩
          · subst h2
            subst h3
            have hP : va_P D cls ([(h, .inr (0, [.ref an, .ref am, .ref ak, .ref ap, .ref ac, .int (nI nm), .int (nI cs), .int (nI mk), .int (nI lr)])), (ak, .inl (cK, 10, .inr (.inr (.inr (.inr kf)))))] ++ (kc cI (kTu (K jq) w) ++ RR)) H := by rw [kc_0 (κ := kTu (K jq) w) hk0]; exact hP
            have hD : va_D A ([(h, .inr (0, [.ref an, .ref am, .ref ak, .ref ap, .ref ac, .int (nI nm), .int (nI cs), .int (nI mk), .int (nI lr)])), (ak, .inl (cK, 10, .inr (.inr (.inr (.inr kf)))))] ++ (kc cI (kTu (K jq) w) ++ RR)) := by rw [kc_0 (κ := kTu (K jq) w) hk0]; exact hD
            have hP : va_P D cls ([(h, .inr (0, [.ref an, .ref am, .ref ak, .ref ap, .ref ac, .int (nI nm), .int (nI cs), .int (nI mk), .int (nI lr)])), (ak, .inl (cK, 10, .inr (.inr (.inr (.inr kf)))))] ++ (pool cI (va_up K jq (kTu (K jq) w)) cs)) H := hP.perm (List.Perm.append_left _ (hRR2 (kTu (K jq) w)).symm)
            have hD : va_D A ([(h, .inr (0, [.ref an, .ref am, .ref ak, .ref ap, .ref ac, .int (nI nm), .int (nI cs), .int (nI mk), .int (nI lr)])), (ak, .inl (cK, 10, .inr (.inr (.inr (.inr kf)))))] ++ (pool cI (va_up K jq (kTu (K jq) w)) cs)) := hD.perm (List.Perm.append_left _ (hRR2 (kTu (K jq) w)).symm)
            exact ret_i C0 hr hlk hAe hS (va_up K jq (kTu (K jq) w)) (by rw [hoc]; show _ = (if _ then _ else _); rw [if_neg (show ¬ (K jq).m = 20 by omega)]) hP hD rfl (Nat.le_of_ble_eq_true rfl) (Nat.le_of_ble_eq_true rfl) d_TC_tuple_38
          · subst h2
            subst h3
            have hP : va_P D cls ([(h, .inr (0, [.ref an, .ref am, .ref ak, .ref ap, .ref ac, .int (nI nm), .int (nI cs), .int (nI mk), .int (nI lr)])), (ak, .inl (cK, 10, .inr (.inr (.inr (.inr kf)))))] ++ (kc cI (K jq) ++ RR)) H := by rw [kc_0 (κ := (K jq)) hk0]; exact hP
            have hD : va_D A ([(h, .inr (0, [.ref an, .ref am, .ref ak, .ref ap, .ref ac, .int (nI nm), .int (nI cs), .int (nI mk), .int (nI lr)])), (ak, .inl (cK, 10, .inr (.inr (.inr (.inr kf)))))] ++ (kc cI (K jq) ++ RR)) := by rw [kc_0 (κ := (K jq)) hk0]; exact hD
            have hP : va_P D cls ([(h, .inr (0, [.ref an, .ref am, .ref ak, .ref ap, .ref ac, .int (nI nm), .int (nI cs), .int (nI mk), .int (nI lr)])), (ak, .inl (cK, 10, .inr (.inr (.inr (.inr kf)))))] ++ (pool cI K cs)) H := hP.perm (List.Perm.append_left _ hRR.symm)
            have hD : va_D A ([(h, .inr (0, [.ref an, .ref am, .ref ak, .ref ap, .ref ac, .int (nI nm), .int (nI cs), .int (nI mk), .int (nI lr)])), (ak, .inl (cK, 10, .inr (.inr (.inr (.inr kf)))))] ++ (pool cI K cs)) := hD.perm (List.Perm.append_left _ hRR.symm)
            exact ret_i C0 hr hlk hAe hS K (by rw [hoc]; show _ = (if _ then _ else _); rw [if_pos (show (K jq).m = 20 by have := (hko.2.2.2.1 hk0).1; omega)]) hP hD rfl (Nat.le_of_ble_eq_true rfl) (Nat.le_of_ble_eq_true rfl) d_TC_tuple_38
    · refine t_eq (y := nI 0) rfl ?_
      refine z_eq (tgt := 39) hx hb (by decide) d_TC_tuple_10 (by decide) (fun c_10 => ?_) (fun c_10 => ?_)
      · have hP : va_P D cls ([(h, .inr (0, [.ref an, .ref am, .ref ak, .ref ap, .ref ac, .int (nI nm), .int (nI cs), .int (nI mk), .int (nI lr)])), (ak, .inl (cK, 10, .inr (.inr (.inr (.inr kf)))))] ++ (pool cI K cs)) H := (show va_P D cls ([(h, .inr (0, [.ref an, .ref am, .ref ak, .ref ap, .ref ac, .int (nI nm), .int (nI cs), .int (nI mk), .int (nI lr)])), (ak, .inl (cK, 10, .inr (.inr (.inr (.inr kf)))))] ++ (kc cI (K jq) ++ RR)) H from hP).perm (List.Perm.append_left _ hRR.symm)
        have hD : va_D A ([(h, .inr (0, [.ref an, .ref am, .ref ak, .ref ap, .ref ac, .int (nI nm), .int (nI cs), .int (nI mk), .int (nI lr)])), (ak, .inl (cK, 10, .inr (.inr (.inr (.inr kf)))))] ++ (pool cI K cs)) := (show va_D A ([(h, .inr (0, [.ref an, .ref am, .ref ak, .ref ap, .ref ac, .int (nI nm), .int (nI cs), .int (nI mk), .int (nI lr)])), (ak, .inl (cK, 10, .inr (.inr (.inr (.inr kf)))))] ++ (kc cI (K jq) ++ RR)) from hD).perm (List.Perm.append_left _ hRR.symm)
        refine lv_bipush (v := (-2)) hx hb d_TC_tuple_39 (by decide) ?_
        exact ret_i C0 hr hlk hAe hS K (by first | (rw [show oTu (fun i0 => (K i0).kd) (fun i0 => (K i0).n) cs x y = none by unfold oTu; rw [hin]; rfl]; rfl) | (rw [show oTu (fun i0 => (K i0).kd) (fun i0 => (K i0).n) cs x y = none by unfold oTu; rw [hij]; show (if _ then _ else _) = _; rw [if_neg (fun q => hk0 q.1)]]; rfl) | (rw [show oTu (fun i0 => (K i0).kd) (fun i0 => (K i0).n) cs x y = none by unfold oTu; rw [hij]; show (if _ then _ else _) = _; rw [if_neg (fun q => absurd (c_29.symm.trans q.2) (by decide))]]; rfl)) hP hD rfl (Nat.le_of_ble_eq_true rfl) (Nat.le_of_ble_eq_true rfl) d_TC_tuple_41
      · exact absurd rfl c_10
