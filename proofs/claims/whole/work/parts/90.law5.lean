/-! THE CLAIM OUT OF ONE WALK OF THE LAW'S BODY. Your part is whole_start (and what it stands on); all else here is the same for every law, but numbers. -/
def R_law : String := "TableChoicesLaw"
def lw_P (b : Addr) (xs : List Int32) (args : Array Value) (s : State) : Prop := args = #[.ref b] ∧ s.IntsAt b xs ∧ xs.length ≤ 3072 ∧ (Jvm.Cond.and given_1 narrow_1).before args s = true
def lw_Q (_ : Array Value) (s : State) (o : Outcome) (t : State) : Prop := o = .returned (some (.int 1)) ∧ Framed s o t [] 600000 7302250
def lw_Z (below : List Frame) (a : Array Value) (s : State) : State → Prop := fun t => ∃ o, t.status = .running ∧ Ended t below o ∧ lw_Q a s o t
/-- the law's own end, with 1 on the stack, nothing written that was there before, its room as the claim has it -/
theorem lw_ret {p : Program} {l : Launch} {e : Env} {s : State} {m : MethodId} {below : List Frame} {meth : Method} {c : Code} {b : Nat} (hx : p.tables.exec = Jvm.exec) (hb : c.code = code) (hr : meth.sig.returnType = ret) (hlocks : meth.locks = false) {pc : Nat} {H : Heap} {ls : Array Slot} (hdg : decode code pc = .ok (.ireturn, 1)) : W p l e room_1 s m #[Value.ref b] below meth c H [] 600000 7302250 (lw_Z below #[Value.ref b] s) (F0 m pc ls [.int 1]) := by
  intro T hT X
  obtain ⟨fs, hret, hrun, hended, hW, hframe⟩ := X.leave (v := some (.int 1)) (hlocks := hlocks) (fun h => by rw [hr] at h; cases h)
  have hmeth' : T.vm.method? m = some meth := X.method'
  refine ⟨T.setFrames fs, ?_, .returned (some (.int 1)), hrun, hended, rfl, ⟨_, rfl⟩, hW, hframe⟩
  jvm_step X.here [X.here.top, hx, hb, hdg, hmeth', hr, ret, narrow_b1]
  (try refine ⟨rfl, ?_⟩); (try refine ⟨rfl, ?_⟩)
  first | (intro acts; rw [hret _ acts rfl rfl rfl]) | rw [hret _ _ rfl rfl rfl]
  exact Steps.refl _
/-- what holds at the law's entry: the machine, the code, the tables' words (any of lw_tbl by 'hts w (by decide +kernel)'), the script of L ints xs at the cell b, what the Statement gives of the start (any of its parts by flat_of_before) -/
def lw_At (p : Program) (s : State) (m : MethodId) (meth : Method) (c : Code) (b L : Nat) (xs : Nat → Int32) : Prop :=
  p.tables.exec = Jvm.exec ∧ c.code = code ∧ meth.sig.returnType = ret ∧ c.maxLocals = 4 ∧ s.vm.findClass R_law = some m.cls ∧ (∀ w ∈ lw_tbl, w.before #[Value.ref b] s = true) ∧ va_X b L xs s s.heap ∧ b < s.heap.size ∧ meth.locks = false ∧ (Jvm.Cond.and given_1 narrow_1).before #[Value.ref b] s = true
theorem ts24 (x : Int32) : (x.toInt < 0 ∨ 23 < x.toInt) ∨ ∃ j : Nat, j < 24 ∧ x = nI j := by
  by_cases g : 0 ≤ x.toInt ∧ x.toInt < ((24 : Nat) : Int)
  · obtain ⟨j, h1, h2, -⟩ := ix_of (x := x) (m := 24) (by decide) g
    exact Or.inr ⟨j, h1, h2⟩
  · exact Or.inl (by omega)
theorem le_L {L i : Nat} (hL : L ≤ 3072) (hi : i < 100000) (h : ¬ Int32.ofNat L - nI 6 < nI i) : i + 6 ≤ L := by
  have h : ¬ nI L - nI 6 < nI i := h
  rcases Nat.lt_or_ge L 6 with g | g
  · exfalso
    apply h
    rw [Int32.lt_iff_toInt_lt, nI_toInt (by omega)]
    rcases (show L = 0 ∨ L = 1 ∨ L = 2 ∨ L = 3 ∨ L = 4 ∨ L = 5 by omega) with rfl | rfl | rfl | rfl | rfl | rfl
    · have e : (nI 0 - nI 6).toInt = -6 := by decide
      omega
    · have e : (nI 1 - nI 6).toInt = -5 := by decide
      omega
    · have e : (nI 2 - nI 6).toInt = -4 := by decide
      omega
    · have e : (nI 3 - nI 6).toInt = -3 := by decide
      omega
    · have e : (nI 4 - nI 6).toInt = -2 := by decide
      omega
    · have e : (nI 5 - nI 6).toInt = -1 := by decide
      omega
  · rw [pk_sub g] at h
    have := fun q => h ((nI_ltI (by omega) (by omega)).mpr q)
    have q : ¬ L - 6 < i := this
    omega
set_option maxHeartbeats 4000000 in
set_option maxRecDepth 100000 in
theorem law_head {p : Program} {l : Launch} {e : Env} {s : State} {m : MethodId} {below : List Frame} {meth : Method} {c : Code} {D : va_G} {cI : ClassId} {A : Nat → Prop} {b : Nat} {cM : ClassId} {cK : ClassId} {h : Nat} {an : Nat} {am : Nat} {ak : Nat} {ap : Nat} {ac : Nat} {cd : Nat} {cr : Nat} {cn : Nat} {po : Nat} {pk : Nat} {pa : Nat} {pb : Nat} {pw : Nat} {ps : Nat} {h2 : Nat} {mf8 : Nat → Option Nat} {ad : Nat → Nat} {nm : Nat} {cs : Nat} {mk : Nat} {lr : Nat} {kf : Nat → Option Nat} {K : Nat → KD} {M : Nat → MD} {dm : Nat → Nat} {rs : Nat → Int32} {rn : Nat → Int32} {chs : Nat → Nat} {tm : Nat} {op : Nat → Nat} {kp : Nat → Nat} {ah : Nat → Nat} {bh : Nat → Nat} {wd : Nat → Nat} {ks : Nat → Nat} {ar : Nat → Nat → Nat} {br : Nat → Nat → Int32} {co : Nat → Option Nat} {af : Nat → Option Nat} {xs : Nat → Int32} {L i C S B : Nat} (C0 : CallFix p m c code 4 s #[Value.ref b] gt "TableChoicesLaw") (hr : meth.sig.returnType = ret) (hlocks : meth.locks = false) (hK : KK D cI (tyT cM cK) s) (hA : ∀ q, s.heap.size ≤ q → A q) (hAs : ∀ q, A q → s.heap.size ≤ q) (hX : va_X b L xs s s.heap) (hbl : b < s.heap.size) (hbA : ¬ A b) (hL : L ≤ 3072) (hi0 : i < 100000) (hI : INV nm cs mk kf K M mf8 dm rs rn chs tm op ah bh ks ar br B) (hCC : C ≤ 600000) (hSS : S ≤ 7302250) (NX : i + 6 ≤ L → B + 93310 < 2147483648 ∧ C + 4 ≤ 600000 ∧ S + 60 ≤ 7302250 ∧ LN p l e s m below meth c (lw_Z below #[Value.ref b] s) D cI A b cM cK h an am ak ap ac cd cr cn po pk pa pb pw ps h2 mf8 ad i (C + 4) (S + 60) (B + 93310)) (H : Heap) (locs : List Loc) (ls : Array Slot) (hP : va_P D cls ([zcO h 0 [.ref an, .ref am, .ref ak, .ref ap, .ref ac, .int (nI nm), .int (nI cs), .int (nI mk), .int (nI lr)], zcQ am cM 8 mf8, zcQ ak cK 10 kf, zcO an 1 [.ref cd, .ref cr, .ref cn], zcN cI cd 6 dm, zcA cI cr 36 rs, zcA cI cn 36 rn, zcN cI ac 6 chs, zcO ap 2 [.ref po, .ref pk, .ref pa, .ref pb, .ref pw, .ref ps, .int (nI tm)], zcN cI po 6 op, zcN cI pk 6 kp, zcN cI pa 56 ah, zcN cI pb 56 bh, zcN cI pw 384 wd, zcN cI ps 384 ks, zcO h2 10 (oM ad nm mk lr cs), zcN cI (ad 1) 6 (ar 1), zcA cI (ad 2) 36 (br 2), zcA cI (ad 3) 36 (br 3), zcN cI (ad 5) 48 (ar 5), zcA cI (ad 6) 288 (br 6), zcA cI (ad 7) 288 (br 7), zcN cI (ad 10) 10 (ar 10), zcN cI (ad 11) 10 (ar 11), zcN cI (ad 12) 10 (ar 12), zcN cI (ad 13) 60 (ar 13), zcN cI (ad 14) 10 (ar 14), zcN cI (ad 15) 10 (ar 15), zcN cI (ad 16) 10 (ar 16), zcN cI (ad 17) 10 (ar 17), zcN cI (ad 18) 200 (ar 18), zcN cI (ad 19) 300 (ar 19), zcN cI (ad 20) 300 (ar 20), zcN cI (ad 21) 300 (ar 21), zcN cI (ad 22) 300 (ar 22), zcN cI (ad 23) 6 (ar 23), zcP cI (ad 24) 6 co, zcP cI (ad 25) 6 af, zcN cI (ad 26) 6 (ar 26), zcN cI (ad 27) 6 (ar 27)] ++ (pool cI K cs ++ mpl cI M 8)) H) (hD : va_D A ([zcO h 0 [.ref an, .ref am, .ref ak, .ref ap, .ref ac, .int (nI nm), .int (nI cs), .int (nI mk), .int (nI lr)], zcQ am cM 8 mf8, zcQ ak cK 10 kf, zcO an 1 [.ref cd, .ref cr, .ref cn], zcN cI cd 6 dm, zcA cI cr 36 rs, zcA cI cn 36 rn, zcN cI ac 6 chs, zcO ap 2 [.ref po, .ref pk, .ref pa, .ref pb, .ref pw, .ref ps, .int (nI tm)], zcN cI po 6 op, zcN cI pk 6 kp, zcN cI pa 56 ah, zcN cI pb 56 bh, zcN cI pw 384 wd, zcN cI ps 384 ks, zcO h2 10 (oM ad nm mk lr cs), zcN cI (ad 1) 6 (ar 1), zcA cI (ad 2) 36 (br 2), zcA cI (ad 3) 36 (br 3), zcN cI (ad 5) 48 (ar 5), zcA cI (ad 6) 288 (br 6), zcA cI (ad 7) 288 (br 7), zcN cI (ad 10) 10 (ar 10), zcN cI (ad 11) 10 (ar 11), zcN cI (ad 12) 10 (ar 12), zcN cI (ad 13) 60 (ar 13), zcN cI (ad 14) 10 (ar 14), zcN cI (ad 15) 10 (ar 15), zcN cI (ad 16) 10 (ar 16), zcN cI (ad 17) 10 (ar 17), zcN cI (ad 18) 200 (ar 18), zcN cI (ad 19) 300 (ar 19), zcN cI (ad 20) 300 (ar 20), zcN cI (ad 21) 300 (ar 21), zcN cI (ad 22) 300 (ar 22), zcN cI (ad 23) 6 (ar 23), zcP cI (ad 24) 6 co, zcP cI (ad 25) 6 af, zcN cI (ad 26) 6 (ar 26), zcN cI (ad 27) 6 (ar 27)] ++ (pool cI K cs ++ mpl cI M 8))) (hS : va_S A s.heap H locs) (hl : lv_has ls 4 [(3, .int (nI i)), (0, .ref b), (1, .ref h), (2, .ref h2)]) : W p l e room_1 s m #[Value.ref b] below meth c H locs C S (lw_Z below #[Value.ref b] s) (F0 m 18 ls []) := by
  have hx := C0.1
  have hb := C0.2.1
  refine lv_iload_n hx hb d_law_18 rfl (lv_at hl 0 rfl) ?_
  refine lv_aload_n hx hb d_law_19 rfl (lv_at hl 1 rfl) ?_
  refine va_slen hx hb hX hbl hbA hS d_law_20 ?_
  refine lv_bipush (v := nI 6) hx hb d_law_21 (by decide) ?_
  refine lv_isub hx hb d_law_23 ?_
  refine lv_icmp_gt (tgt := 928) hx hb d_law_24 (by decide) (fun c_24 => ?_) (fun c_24 => ?_)
  · refine lv_iconst (v := 1) hx hb d_law_928 (by decide) ?_
    refine va_forget (fun q hq => hAs _ (hS.2.2 q hq)) ?_
    refine W.widen (k := 600000) (n := 7302250) hCC hSS ?_
    exact lw_ret hx hb hr hlocks d_law_929
  · have hi : i + 6 ≤ L := le_L hL hi0 c_24
    obtain ⟨hB, hC, hSl, NX⟩ := NX hi
    refine lv_aload_n hx hb d_law_27 rfl (lv_at hl 1 rfl) ?_
    refine lv_iload_n hx hb d_law_28 rfl (lv_at hl 0 rfl) ?_
    refine r_sld C0 hX hbl hbA hS (ixl (k := 0) hi (by decide)) hL d_law_29 ?_
    refine lv_bipush (v := nI 31) hx hb d_law_30 (by decide) ?_
    refine lv_iand hx hb d_law_32 ?_
    rcases ts24 (xs i &&& nI 31) with hts | ⟨j, hj, hts⟩
    · refine lv_tableOut (tgt := 922) hx hb d_law_33 hts (by decide) ?_
      refine W.widen (k := C + 4) (n := S + 60) (Nat.le_add_right _ _) (Nat.le_add_right _ _) ?_
      obtain ⟨h1, h2, h3, h4, h5, h6, h7, h8, h9, h10⟩ := hI
      exact NX nm cs mk lr kf K M dm rs rn chs tm op kp ah bh wd ks ar br co af ⟨h1, h2, h3, h4, h5, h6, h7, h8, Nat.le_trans h9 (Nat.le_add_right _ _), h10⟩ H locs ls hP hD hS hl
    · rcases (show j = 0 ∨ j = 1 ∨ j = 2 ∨ j = 3 ∨ j = 4 ∨ j = 5 ∨ j = 6 ∨ j = 7 ∨ j = 8 ∨ j = 9 ∨ j = 10 ∨ j = 11 ∨ j = 12 ∨ j = 13 ∨ j = 14 ∨ j = 15 ∨ j = 16 ∨ j = 17 ∨ j = 18 ∨ j = 19 ∨ j = 20 ∨ j = 21 ∨ j = 22 ∨ j = 23 by omega) with rfl | rfl | rfl | rfl | rfl | rfl | rfl | rfl | rfl | rfl | rfl | rfl | rfl | rfl | rfl | rfl | rfl | rfl | rfl | rfl | rfl | rfl | rfl | rfl
      · refine t_eq (y := nI 0) hts ?_
        refine lv_tableIn (tgt := 144) (off := 111) hx hb d_law_33 (by decide) (by decide) rfl (by decide) ?_
        exact law_clear C0 hK hA hX hbl hbA hL hi hI hB hC hSl NX H locs ls hP hD hS hl
      · refine t_eq (y := nI 1) hts ?_
        refine lv_tableIn (tgt := 157) (off := 124) hx hb d_law_33 (by decide) (by decide) rfl (by decide) ?_
        exact law_name C0 hK hA hX hbl hbA hL hi hI hB hC hSl NX H locs ls hP hD hS hl
      · refine t_eq (y := nI 2) hts ?_
        refine lv_tableIn (tgt := 180) (off := 147) hx hb d_law_33 (by decide) (by decide) rfl (by decide) ?_
        exact law_table C0 hK hA hX hbl hbA hL hi hI hB hC hSl NX H locs ls hP hD hS hl
      · refine t_eq (y := nI 3) hts ?_
        refine lv_tableIn (tgt := 213) (off := 180) hx hb d_law_33 (by decide) (by decide) rfl (by decide) ?_
        exact law_tuple C0 hK hA hX hbl hbA hL hi hI hB hC hSl NX H locs ls hP hD hS hl
      · refine t_eq (y := nI 4) hts ?_
        refine lv_tableIn (tgt := 246) (off := 213) hx hb d_law_33 (by decide) (by decide) rfl (by decide) ?_
        exact law_machine C0 hK hA hX hbl hbA hL hi hI hB hC hSl NX H locs ls hP hD hS hl
      · refine t_eq (y := nI 5) hts ?_
        refine lv_tableIn (tgt := 299) (off := 266) hx hb d_law_33 (by decide) (by decide) rfl (by decide) ?_
        exact law_step C0 hK hA hX hbl hbA hL hi hI hB hC hSl NX H locs ls hP hD hS hl
      · refine t_eq (y := nI 6) hts ?_
        refine lv_tableIn (tgt := 362) (off := 329) hx hb d_law_33 (by decide) (by decide) rfl (by decide) ?_
        exact law_element C0 hK hA hX hbl hbA hL hi hI hB hC hSl NX H locs ls hP hD hS hl
      · refine t_eq (y := nI 7) hts ?_
        refine lv_tableIn (tgt := 395) (off := 362) hx hb d_law_33 (by decide) (by decide) rfl (by decide) ?_
        exact law_order C0 hK hA hX hbl hbA hL hi hI hB hC hSl NX H locs ls hP hD hS hl
      · refine t_eq (y := nI 8) hts ?_
        refine lv_tableIn (tgt := 454) (off := 421) hx hb d_law_33 (by decide) (by decide) rfl (by decide) ?_
        exact law_sum C0 hK hA hX hbl hbA hL hi hI hB hC hSl NX H locs ls hP hD hS hl
      · refine t_eq (y := nI 9) hts ?_
        refine lv_tableIn (tgt := 507) (off := 474) hx hb d_law_33 (by decide) (by decide) rfl (by decide) ?_
        exact law_tally C0 hK hA hX hbl hbA hL hi hI hB hC hSl NX H locs ls hP hD hS hl
      · refine t_eq (y := nI 10) hts ?_
        refine lv_tableIn (tgt := 570) (off := 537) hx hb d_law_33 (by decide) (by decide) rfl (by decide) ?_
        exact law_first C0 hK hA hX hbl hbA hL hi hI hB hC hSl NX H locs ls hP hD hS hl
      · refine t_eq (y := nI 11) hts ?_
        refine lv_tableIn (tgt := 623) (off := 590) hx hb d_law_33 (by decide) (by decide) rfl (by decide) ?_
        exact law_undo C0 hK hA hX hbl hbA hL hi hI hB hC hSl NX H locs ls hP hD hS hl
      · refine t_eq (y := nI 12) hts ?_
        refine lv_tableIn (tgt := 636) (off := 603) hx hb d_law_33 (by decide) (by decide) rfl (by decide) ?_
        exact law_cut C0 hK hA hX hbl hbA hL hi hI hB hC hSl NX H locs ls hP hD hS hl
      · refine t_eq (y := nI 13) hts ?_
        refine lv_tableIn (tgt := 669) (off := 636) hx hb d_law_33 (by decide) (by decide) rfl (by decide) ?_
        exact law_run C0 hK hA hX hbl hbA hL hi hI hB hC hSl NX H locs ls hP hD hS hl
      · refine t_eq (y := nI 14) hts ?_
        refine lv_tableIn (tgt := 682) (off := 649) hx hb d_law_33 (by decide) (by decide) rfl (by decide) ?_
        exact law_mark C0 hK hA hX hbl hbA hL hi hI hB hC hSl NX H locs ls hP hD hS hl
      · refine t_eq (y := nI 15) hts ?_
        refine lv_tableIn (tgt := 695) (off := 662) hx hb d_law_33 (by decide) (by decide) rfl (by decide) ?_
        exact law_back C0 hK hA hX hbl hbA hL hi hI hB hC hSl NX H locs ls hP hD hS hl
      · refine t_eq (y := nI 16) hts ?_
        refine lv_tableIn (tgt := 708) (off := 675) hx hb d_law_33 (by decide) (by decide) rfl (by decide) ?_
        exact law_domain C0 hK hA hX hbl hbA hL hi hI hB hC hSl NX H locs ls hP hD hS hl
      · refine t_eq (y := nI 17) hts ?_
        refine lv_tableIn (tgt := 731) (off := 698) hx hb d_law_33 (by decide) (by decide) rfl (by decide) ?_
        exact law_why C0 hK hA hX hbl hbA hL hi hI hB hC hSl NX H locs ls hP hD hS hl
      · refine t_eq (y := nI 18) hts ?_
        refine lv_tableIn (tgt := 774) (off := 741) hx hb d_law_33 (by decide) (by decide) rfl (by decide) ?_
        exact law_allows C0 hK hA hX hbl hbA hL hi hI hB hC hSl NX H locs ls hP hD hS hl
      · refine t_eq (y := nI 19) hts ?_
        refine lv_tableIn (tgt := 807) (off := 774) hx hb d_law_33 (by decide) (by decide) rfl (by decide) ?_
        exact law_told C0 hK hA hX hbl hbA hL hi hI hB hC hSl NX H locs ls hP hD hS hl
      · refine t_eq (y := nI 20) hts ?_
        refine lv_tableIn (tgt := 840) (off := 807) hx hb d_law_33 (by decide) (by decide) rfl (by decide) ?_
        exact law_least C0 hK hA hX hbl hbA hL hi hI hB hC hSl NX H locs ls hP hD hS hl
      · refine t_eq (y := nI 21) hts ?_
        refine lv_tableIn (tgt := 863) (off := 830) hx hb d_law_33 (by decide) (by decide) rfl (by decide) ?_
        exact law_count C0 hK hA hX hbl hbA hL hi hI hB hC hSl NX H locs ls hP hD hS hl
      · refine t_eq (y := nI 22) hts ?_
        refine lv_tableIn (tgt := 876) (off := 843) hx hb d_law_33 (by decide) (by decide) rfl (by decide) ?_
        exact law_next C0 hK hA hX hbl hbA hL hi hI hB hC hSl NX H locs ls hP hD hS hl
      · refine t_eq (y := nI 23) hts ?_
        refine lv_tableIn (tgt := 899) (off := 866) hx hb d_law_33 (by decide) (by decide) rfl (by decide) ?_
        exact law_of C0 hK hA hX hbl hbA hL hi hI hB hC hSl NX H locs ls hP hD hS hl
theorem lp_i {i f : Nat} (h : i + f ≤ 512) : 6 * i < 100000 := by omega
theorem lp_C {a f c N : Nat} (h : a + c * f ≤ N) : a ≤ N := Nat.le_trans (Nat.le_add_right _ _) h
theorem lp_0 {L i : Nat} (h : L < 6 * i + 6 + 6 * 0) : ¬ 6 * i + 6 ≤ L := by omega
theorem lp_1 {L i f : Nat} (h : L < 6 * i + 6 + 6 * (f + 1)) : L < 6 * (i + 1) + 6 + 6 * f := by omega
theorem lp_2 {i f : Nat} (h : i + (f + 1) ≤ 512) : i + 1 + f ≤ 512 := by omega
theorem lp_4 {a f N : Nat} (h : a + 4 * (f + 1) ≤ N) : a + 4 ≤ N ∧ a + 4 + 4 * f ≤ N := by omega
theorem lp_60 {a f N : Nat} (h : a + 60 * (f + 1) ≤ N) : a + 60 ≤ N ∧ a + 60 + 60 * f ≤ N := by omega
theorem lp_B {a f N : Nat} (h : a + 93310 * (f + 1) < N) : a + 93310 < N ∧ a + 93310 + 93310 * f < N := by omega
theorem inc6 (it : Nat) : nI (6 * it) + Int32.ofInt 6 = nI (6 * (it + 1)) := (nI_add (6 * it) 6)
set_option maxHeartbeats 4000000 in
set_option maxRecDepth 100000 in
theorem law_loop {p : Program} {l : Launch} {e : Env} {s : State} {m : MethodId} {below : List Frame} {meth : Method} {c : Code} {D : va_G} {cI : ClassId} {A : Nat → Prop} {b : Nat} {cM : ClassId} {cK : ClassId} {h : Nat} {an : Nat} {am : Nat} {ak : Nat} {ap : Nat} {ac : Nat} {cd : Nat} {cr : Nat} {cn : Nat} {po : Nat} {pk : Nat} {pa : Nat} {pb : Nat} {pw : Nat} {ps : Nat} {h2 : Nat} {mf8 : Nat → Option Nat} {ad : Nat → Nat} {xs : Nat → Int32} {L : Nat} (C0 : CallFix p m c code 4 s #[Value.ref b] gt "TableChoicesLaw") (hr : meth.sig.returnType = ret) (hlocks : meth.locks = false) (hK : KK D cI (tyT cM cK) s) (hA : ∀ q, s.heap.size ≤ q → A q) (hAs : ∀ q, A q → s.heap.size ≤ q) (hX : va_X b L xs s s.heap) (hbl : b < s.heap.size) (hbA : ¬ A b) (hL : L ≤ 3072) : ∀ (fuel it C S B : Nat), L < 6 * it + 6 + 6 * fuel → it + fuel ≤ 512 → C + 4 * fuel ≤ 600000 → S + 60 * fuel ≤ 7302250 → B + 93310 * fuel < 2147483648 → ∀ (nm : Nat) (cs : Nat) (mk : Nat) (lr : Nat) (kf : Nat → Option Nat) (K : Nat → KD) (M : Nat → MD) (dm : Nat → Nat) (rs : Nat → Int32) (rn : Nat → Int32) (chs : Nat → Nat) (tm : Nat) (op : Nat → Nat) (kp : Nat → Nat) (ah : Nat → Nat) (bh : Nat → Nat) (wd : Nat → Nat) (ks : Nat → Nat) (ar : Nat → Nat → Nat) (br : Nat → Nat → Int32) (co : Nat → Option Nat) (af : Nat → Option Nat), INV nm cs mk kf K M mf8 dm rs rn chs tm op ah bh ks ar br B → ∀ (H : Heap) (locs : List Loc) (ls : Array Slot), va_P D cls ([zcO h 0 [.ref an, .ref am, .ref ak, .ref ap, .ref ac, .int (nI nm), .int (nI cs), .int (nI mk), .int (nI lr)], zcQ am cM 8 mf8, zcQ ak cK 10 kf, zcO an 1 [.ref cd, .ref cr, .ref cn], zcN cI cd 6 dm, zcA cI cr 36 rs, zcA cI cn 36 rn, zcN cI ac 6 chs, zcO ap 2 [.ref po, .ref pk, .ref pa, .ref pb, .ref pw, .ref ps, .int (nI tm)], zcN cI po 6 op, zcN cI pk 6 kp, zcN cI pa 56 ah, zcN cI pb 56 bh, zcN cI pw 384 wd, zcN cI ps 384 ks, zcO h2 10 (oM ad nm mk lr cs), zcN cI (ad 1) 6 (ar 1), zcA cI (ad 2) 36 (br 2), zcA cI (ad 3) 36 (br 3), zcN cI (ad 5) 48 (ar 5), zcA cI (ad 6) 288 (br 6), zcA cI (ad 7) 288 (br 7), zcN cI (ad 10) 10 (ar 10), zcN cI (ad 11) 10 (ar 11), zcN cI (ad 12) 10 (ar 12), zcN cI (ad 13) 60 (ar 13), zcN cI (ad 14) 10 (ar 14), zcN cI (ad 15) 10 (ar 15), zcN cI (ad 16) 10 (ar 16), zcN cI (ad 17) 10 (ar 17), zcN cI (ad 18) 200 (ar 18), zcN cI (ad 19) 300 (ar 19), zcN cI (ad 20) 300 (ar 20), zcN cI (ad 21) 300 (ar 21), zcN cI (ad 22) 300 (ar 22), zcN cI (ad 23) 6 (ar 23), zcP cI (ad 24) 6 co, zcP cI (ad 25) 6 af, zcN cI (ad 26) 6 (ar 26), zcN cI (ad 27) 6 (ar 27)] ++ (pool cI K cs ++ mpl cI M 8)) H → va_D A ([zcO h 0 [.ref an, .ref am, .ref ak, .ref ap, .ref ac, .int (nI nm), .int (nI cs), .int (nI mk), .int (nI lr)], zcQ am cM 8 mf8, zcQ ak cK 10 kf, zcO an 1 [.ref cd, .ref cr, .ref cn], zcN cI cd 6 dm, zcA cI cr 36 rs, zcA cI cn 36 rn, zcN cI ac 6 chs, zcO ap 2 [.ref po, .ref pk, .ref pa, .ref pb, .ref pw, .ref ps, .int (nI tm)], zcN cI po 6 op, zcN cI pk 6 kp, zcN cI pa 56 ah, zcN cI pb 56 bh, zcN cI pw 384 wd, zcN cI ps 384 ks, zcO h2 10 (oM ad nm mk lr cs), zcN cI (ad 1) 6 (ar 1), zcA cI (ad 2) 36 (br 2), zcA cI (ad 3) 36 (br 3), zcN cI (ad 5) 48 (ar 5), zcA cI (ad 6) 288 (br 6), zcA cI (ad 7) 288 (br 7), zcN cI (ad 10) 10 (ar 10), zcN cI (ad 11) 10 (ar 11), zcN cI (ad 12) 10 (ar 12), zcN cI (ad 13) 60 (ar 13), zcN cI (ad 14) 10 (ar 14), zcN cI (ad 15) 10 (ar 15), zcN cI (ad 16) 10 (ar 16), zcN cI (ad 17) 10 (ar 17), zcN cI (ad 18) 200 (ar 18), zcN cI (ad 19) 300 (ar 19), zcN cI (ad 20) 300 (ar 20), zcN cI (ad 21) 300 (ar 21), zcN cI (ad 22) 300 (ar 22), zcN cI (ad 23) 6 (ar 23), zcP cI (ad 24) 6 co, zcP cI (ad 25) 6 af, zcN cI (ad 26) 6 (ar 26), zcN cI (ad 27) 6 (ar 27)] ++ (pool cI K cs ++ mpl cI M 8)) → va_S A s.heap H locs → lv_has ls 4 [(3, .int (nI (6 * it))), (0, .ref b), (1, .ref h), (2, .ref h2)] → W p l e room_1 s m #[Value.ref b] below meth c H locs C S (lw_Z below #[Value.ref b] s) (F0 m 18 ls []) := by
  intro fuel
  induction fuel with
  | zero =>
    intro it C S B k1 k2 k3 k4 k5 nm cs mk lr kf K M dm rs rn chs tm op kp ah bh wd ks ar br co af hI H locs ls hP hD hS hl
    exact law_head C0 hr hlocks hK hA hAs hX hbl hbA hL (lp_i k2) hI (lp_C k3) (lp_C k4) (fun q => absurd q (lp_0 k1)) H locs ls hP hD hS hl
  | succ fuel ih =>
    intro it C S B k1 k2 k3 k4 k5 nm cs mk lr kf K M dm rs rn chs tm op kp ah bh wd ks ar br co af hI H locs ls hP hD hS hl
    refine law_head C0 hr hlocks hK hA hAs hX hbl hbA hL (lp_i k2) hI (lp_C k3) (lp_C k4) (fun q => ⟨(lp_B k5).1, (lp_4 k3).1, (lp_60 k4).1, ?_⟩) H locs ls hP hD hS hl
    intro nm cs mk lr kf K M dm rs rn chs tm op kp ah bh wd ks ar br co af hI H locs ls hP hD hS hl
    have hx := C0.1
    have hb := C0.2.1
    refine lv_iinc (v := nI (6 * (it + 1))) (lv' := [(3, .int (nI (6 * (it + 1)))), (0, .ref b), (1, .ref h), (2, .ref h2)]) hx hb d_law_922 hl (k := 0) rfl (by exact inc6 it) (by decide) rfl (fun ls hl => ?_)
    refine lv_goto (tgt := 18) hx hb d_law_925 (by decide) ?_
    exact ih (it + 1) (C + 4) (S + 60) (B + 93310) (lp_1 k1) (lp_2 k2) (lp_4 k3).2 (lp_60 k4).2 (lp_B k5).2 nm cs mk lr kf K M dm rs rn chs tm op kp ah bh wd ks ar br co af hI H locs ls hP hD hS hl
theorem nw_in : ∀ w ∈ nwl, w.onTables = true ∧ w ∈ lw_tbl := List.forall_mem_cons.mpr ⟨⟨rfl, List.mem_append_right _ (List.mem_of_getElem? (i := 27) (by decide +kernel))⟩, List.forall_mem_cons.mpr ⟨⟨rfl, List.mem_append_right _ (List.mem_of_getElem? (i := 50) (by decide +kernel))⟩, List.forall_mem_cons.mpr ⟨⟨rfl, List.mem_append_right _ (List.mem_of_getElem? (i := 161) (by decide +kernel))⟩, List.forall_mem_cons.mpr ⟨⟨rfl, List.mem_append_right _ (List.mem_of_getElem? (i := 226) (by decide +kernel))⟩, List.forall_mem_cons.mpr ⟨⟨rfl, List.mem_append_right _ (List.mem_of_getElem? (i := 267) (by decide +kernel))⟩, List.forall_mem_cons.mpr ⟨⟨rfl, List.mem_append_right _ (List.mem_of_getElem? (i := 395) (by decide +kernel))⟩, List.forall_mem_cons.mpr ⟨⟨rfl, List.mem_append_right _ (List.mem_of_getElem? (i := 418) (by decide +kernel))⟩, List.forall_mem_cons.mpr ⟨⟨rfl, List.mem_append_right _ (List.mem_of_getElem? (i := 432) (by decide +kernel))⟩, List.forall_mem_cons.mpr ⟨⟨rfl, List.mem_append_right _ (List.mem_of_getElem? (i := 446) (by decide +kernel))⟩, List.forall_mem_cons.mpr ⟨⟨rfl, List.mem_append_right _ (List.mem_of_getElem? (i := 450) (by decide +kernel))⟩, List.forall_mem_cons.mpr ⟨⟨rfl, List.mem_append_right _ (List.mem_of_getElem? (i := 458) (by decide +kernel))⟩, List.forall_mem_cons.mpr ⟨⟨rfl, List.mem_append_right _ (List.mem_of_getElem? (i := 459) (by decide +kernel))⟩, List.forall_mem_cons.mpr ⟨⟨rfl, List.mem_append_right _ (List.mem_of_getElem? (i := 461) (by decide +kernel))⟩, List.forall_mem_cons.mpr ⟨⟨rfl, List.mem_append_right _ (List.mem_of_getElem? (i := 466) (by decide +kernel))⟩, List.forall_mem_cons.mpr ⟨⟨rfl, List.mem_append_right _ (List.mem_of_getElem? (i := 473) (by decide +kernel))⟩, List.forall_mem_cons.mpr ⟨⟨rfl, List.mem_append_right _ (List.mem_of_getElem? (i := 498) (by decide +kernel))⟩, List.forall_mem_cons.mpr ⟨⟨rfl, List.mem_append_right _ (List.mem_of_getElem? (i := 503) (by decide +kernel))⟩, List.forall_mem_cons.mpr ⟨⟨rfl, List.mem_append_right _ (List.mem_of_getElem? (i := 508) (by decide +kernel))⟩, List.forall_mem_cons.mpr ⟨⟨rfl, List.mem_append_right _ (List.mem_of_getElem? (i := 526) (by decide +kernel))⟩, List.forall_mem_cons.mpr ⟨⟨rfl, List.mem_append_right _ (List.mem_of_getElem? (i := 567) (by decide +kernel))⟩, List.forall_mem_cons.mpr ⟨⟨rfl, List.mem_append_right _ (List.mem_of_getElem? (i := 588) (by decide +kernel))⟩, List.forall_mem_cons.mpr ⟨⟨rfl, List.mem_append_right _ (List.mem_of_getElem? (i := 617) (by decide +kernel))⟩, List.forall_mem_cons.mpr ⟨⟨rfl, List.mem_append_right _ (List.mem_of_getElem? (i := 914) (by decide +kernel))⟩, List.forall_mem_cons.mpr ⟨⟨rfl, List.mem_append_right _ (List.mem_of_getElem? (i := 915) (by decide +kernel))⟩, List.forall_mem_cons.mpr ⟨⟨rfl, List.mem_append_right _ (List.mem_of_getElem? (i := 916) (by decide +kernel))⟩, List.forall_mem_cons.mpr ⟨⟨rfl, List.mem_append_right _ (List.mem_of_getElem? (i := 917) (by decide +kernel))⟩, List.forall_mem_cons.mpr ⟨⟨rfl, List.mem_append_right _ (List.mem_of_getElem? (i := 918) (by decide +kernel))⟩, List.forall_mem_cons.mpr ⟨⟨rfl, List.mem_append_right _ (List.mem_of_getElem? (i := 919) (by decide +kernel))⟩, List.forall_mem_cons.mpr ⟨⟨rfl, List.mem_append_right _ (List.mem_of_getElem? (i := 920) (by decide +kernel))⟩, List.forall_mem_cons.mpr ⟨⟨rfl, List.mem_append_right _ (List.mem_of_getElem? (i := 921) (by decide +kernel))⟩, List.forall_mem_cons.mpr ⟨⟨rfl, List.mem_append_right _ (List.mem_of_getElem? (i := 922) (by decide +kernel))⟩, fun _ h => absurd h List.not_mem_nil⟩⟩⟩⟩⟩⟩⟩⟩⟩⟩⟩⟩⟩⟩⟩⟩⟩⟩⟩⟩⟩⟩⟩⟩⟩⟩⟩⟩⟩⟩⟩
theorem nc_in {b : Nat} {s : State} (h : (Jvm.Cond.and given_1 narrow_1).before #[Value.ref b] s = true) : ∀ q ∈ ncl, va_Nc q.1 q.2 s := by
  have hs := flat_of_before _ h
  exact List.forall_mem_cons.mpr ⟨va_Nc.of (hs (Cond.not (.castable "TableChoices" "TableChoices$Table")) (by decide +kernel)), List.forall_mem_cons.mpr ⟨va_Nc.of (hs (Cond.not (.castable "TableChoices$Choices" "TableChoices$Table")) (by decide +kernel)), List.forall_mem_cons.mpr ⟨va_Nc.of (hs (Cond.not (.castable "TableChoices$Places" "TableChoices$Table")) (by decide +kernel)), List.forall_mem_cons.mpr ⟨va_Nc.of (hs (Cond.not (.castable "TableChoicesModel" "TableChoices$Table")) (by decide +kernel)), List.forall_mem_cons.mpr ⟨va_Nc.of (hs (Cond.not (.castable "TableChoices$Machine" "TableChoices$Table")) (by decide +kernel)), List.forall_mem_cons.mpr ⟨va_Nc.of (hs (Cond.not (.castable "TableChoices$Element" "TableChoices$Table")) (by decide +kernel)), List.forall_mem_cons.mpr ⟨va_Nc.of (hs (Cond.not (.castable "TableChoices$Order" "TableChoices$Table")) (by decide +kernel)), List.forall_mem_cons.mpr ⟨va_Nc.of (hs (Cond.not (.castable "TableChoices$Sum" "TableChoices$Table")) (by decide +kernel)), List.forall_mem_cons.mpr ⟨va_Nc.of (hs (Cond.not (.castable "TableChoices$Tally" "TableChoices$Table")) (by decide +kernel)), List.forall_mem_cons.mpr ⟨va_Nc.of (hs (Cond.not (.castable "TableChoices$First" "TableChoices$Table")) (by decide +kernel)), List.forall_mem_cons.mpr ⟨va_Nc.of (hs (Cond.not (.castable "TableChoices" "TableChoices$Machine")) (by decide +kernel)), List.forall_mem_cons.mpr ⟨va_Nc.of (hs (Cond.not (.castable "TableChoices$Choices" "TableChoices$Machine")) (by decide +kernel)), List.forall_mem_cons.mpr ⟨va_Nc.of (hs (Cond.not (.castable "TableChoices$Places" "TableChoices$Machine")) (by decide +kernel)), List.forall_mem_cons.mpr ⟨va_Nc.of (hs (Cond.not (.castable "TableChoicesModel" "TableChoices$Machine")) (by decide +kernel)), List.forall_mem_cons.mpr ⟨va_Nc.of (hs (Cond.not (.castable "TableChoices$Table" "TableChoices$Machine")) (by decide +kernel)), List.forall_mem_cons.mpr ⟨va_Nc.of (hs (Cond.not (.castable "TableChoices$Element" "TableChoices$Machine")) (by decide +kernel)), List.forall_mem_cons.mpr ⟨va_Nc.of (hs (Cond.not (.castable "TableChoices$Order" "TableChoices$Machine")) (by decide +kernel)), List.forall_mem_cons.mpr ⟨va_Nc.of (hs (Cond.not (.castable "TableChoices$Sum" "TableChoices$Machine")) (by decide +kernel)), List.forall_mem_cons.mpr ⟨va_Nc.of (hs (Cond.not (.castable "TableChoices$Tally" "TableChoices$Machine")) (by decide +kernel)), List.forall_mem_cons.mpr ⟨va_Nc.of (hs (Cond.not (.castable "TableChoices$First" "TableChoices$Machine")) (by decide +kernel)), fun _ h => absurd h List.not_mem_nil⟩⟩⟩⟩⟩⟩⟩⟩⟩⟩⟩⟩⟩⟩⟩⟩⟩⟩⟩⟩
theorem ty_int {s : State} {args : Array Value} (h : (Cond.arrayClass .int).before args s = true) : ∃ cI : ClassId, ArrOfT s cI .int ∧ va_RA s cI .int ∧ s.vm.findClass "[I" = some cI := by
  obtain ⟨c, k, comp, h1, h2, h3⟩ := Cond.arrayClass_spec h
  have e : "[" ++ FieldType.int.toString = "[I" := by decide +kernel
  exact ⟨c, fun n z => ⟨fun k h => (by cases h), k, h2, comp, h3⟩, h1, by rw [← e]; exact h1⟩
set_option maxHeartbeats 4000000 in
set_option maxRecDepth 100000 in
theorem whole_start {p : Program} {e : Env} {s : State} {m : MethodId} {below : List Frame} {meth : Method} {c : Code} (l : Launch) {b L : Nat} {xs : Nat → Int32} (hL : L ≤ 3072) (C1 : lw_At p s m meth c b L xs) : W p l e room_1 s m #[Value.ref b] below meth c s.heap [] 0 0 (lw_Z below #[Value.ref b] s) (entryFrame m ([Value.ref b] : List Value).toArray 4) := by
  obtain ⟨hx, hb, hr, hml, hown, hts, hX, hbl, hlocks, hgv⟩ := id C1
  have hA : ∀ q : Nat, s.heap.size ≤ q → (fun q : Nat => s.heap.size ≤ q) q := fun _ h => h
  have hbA : ¬ (fun q : Nat => s.heap.size ≤ q) b := Nat.not_le.mpr hbl
  have htg := gt_all hts
  have C0 : CallFix p m c code 4 s #[Value.ref b] gt "TableChoicesLaw" := ⟨hx, hb, hml, hown, htg⟩
  obtain ⟨c0, iS0, hKn0⟩ := u_known (C := R_TC) (T := F_TC) (N := 9) (n := 9) htg i_TC (htg _ wt_18)
  obtain ⟨c1, iS1, hKn1⟩ := u_known (C := R_Ch) (T := F_Ch) (N := 3) (n := 3) htg i_Ch (htg _ wt_26)
  obtain ⟨c2, iS2, hKn2⟩ := u_known (C := R_Pl) (T := F_Pl) (N := 7) (n := 7) htg i_Pl (htg _ wt_49)
  obtain ⟨c3, iS3, hKn3⟩ := u_known (C := R_Ta) (T := F_Ta) (N := 8) (n := 8) htg i_Ta (htg _ wt_153)
  obtain ⟨c4, iS4, hKn4⟩ := u_known (C := R_Ma) (T := F_Ma) (N := 10) (n := 10) htg i_Ma (htg _ wt_232)
  obtain ⟨c5, iS5, hKn5⟩ := u_known (C := R_El) (T := F_El) (N := 6) (n := 6) htg i_El (htg _ wt_273)
  obtain ⟨c6, iS6, hKn6⟩ := u_known (C := R_Or) (T := F_Or) (N := 7) (n := 7) htg i_Or (htg _ wt_293)
  obtain ⟨c7, iS7, hKn7⟩ := u_known (C := R_Su) (T := F_Su) (N := 8) (n := 8) htg i_Su (htg _ wt_316)
  obtain ⟨c8, iS8, hKn8⟩ := u_known (C := R_Ty) (T := F_Ty) (N := 9) (n := 9) htg i_Ty (htg _ wt_339)
  obtain ⟨c9, iS9, hKn9⟩ := u_known (C := R_Fi) (T := F_Fi) (N := 8) (n := 8) htg i_Fi (htg _ wt_365)
  obtain ⟨c10, iS10, hKn10⟩ := u_known (C := R_M) (T := F_M) (N := 28) (n := 28) htg i_M (htg _ wt_658)
  obtain ⟨dC, dI, hKc⟩ : ∃ (dC : Nat → ClassId) (dI : Nat → Nat → Nat), ∀ (k : Nat) (q : vw_C), cls[k]? = some q → u_Kn s q.1 q.2.1 q.2.2 (dC k) (dI k) := by
    refine ⟨fun k => if k = 0 then c0 else if k = 1 then c1 else if k = 2 then c2 else if k = 3 then c3 else if k = 4 then c4 else if k = 5 then c5 else if k = 6 then c6 else if k = 7 then c7 else if k = 8 then c8 else if k = 9 then c9 else c10, fun k => if k = 0 then iS0 else if k = 1 then iS1 else if k = 2 then iS2 else if k = 3 then iS3 else if k = 4 then iS4 else if k = 5 then iS5 else if k = 6 then iS6 else if k = 7 then iS7 else if k = 8 then iS8 else if k = 9 then iS9 else iS10, ?_⟩
    intro k q hq
    match k, hq with
    | 0, hq => cases hq; exact hKn0
    | 1, hq => cases hq; exact hKn1
    | 2, hq => cases hq; exact hKn2
    | 3, hq => cases hq; exact hKn3
    | 4, hq => cases hq; exact hKn4
    | 5, hq => cases hq; exact hKn5
    | 6, hq => cases hq; exact hKn6
    | 7, hq => cases hq; exact hKn7
    | 8, hq => cases hq; exact hKn8
    | 9, hq => cases hq; exact hKn9
    | 10, hq => cases hq; exact hKn10
    | k + 11, hq => simp [cls] at hq
  obtain ⟨cI, hI1, hI2, hI3⟩ := ty_int (htg _ wt_44)
  have hao1 : va_AO "TableChoices$Choices" s := va_AO.of (hts _ (List.mem_append_right _ (List.mem_of_getElem? (i := 45) (by decide +kernel))))
  have hao2 : va_AO "TableChoices$Constraint" s := va_AO.of (hts _ (List.mem_append_right _ (List.mem_of_getElem? (i := 47) (by decide +kernel))))
  obtain ⟨cM, hM1, hM2⟩ := ty_ex hao1
  obtain ⟨cK, hK1, hK2⟩ := ty_ex hao2
  have hK : KK (dC, dI) cI (tyT cM cK) s := ⟨⟨hKc, fun k q h => by
      match k, h with
      | 0, h => cases h; exact ⟨hI1, hI2⟩
      | 1, h => cases h; exact ⟨hM1, hM2⟩
      | 2, h => cases h; exact ⟨hK1, hK2⟩
      | k + 3, h => simp at h⟩, ⟨fun w hw => va_Nw.of (nw_in w hw).1 (hts w (nw_in w hw).2), nc_in hgv, hao1, hao2⟩, hI3⟩
  generalize hDD : (dC, dI) = D at hK
  have hS : va_S (fun q : Nat => s.heap.size ≤ q) s.heap s.heap [] := va_S.rf
  have hP : va_P D cls [] s.heap := fun k q h => by simp at h
  have hD : va_D (fun q : Nat => s.heap.size ≤ q) [] := ⟨fun i j p q h => by simp at h, fun k q h => by simp at h⟩
  have hl := lv_entry ([.ref b]) (n := 4) (Nat.le_of_ble_eq_true rfl)
  rw [lg_entry_eq]
  generalize (lg_sl ([.ref b]) ++ List.replicate (4 - (lg_sl ([.ref b])).length) Slot.unset).toArray = ls at hl ⊢
  have hl : lv_has ls 4 [(0, .ref b)] := hl
  refine r_new C0 hK hP hD hS hA (ci := 0) rfl i_TC t_TC k_TC wt_17 wt_18 wt_1 [.null, .null, .null, .null, .null, .int (nI 0), .int (nI 0), .int (nI 0), .int (nI 0)] (fun j hj => by rcases (show j = 0 ∨ j = 1 ∨ j = 2 ∨ j = 3 ∨ j = 4 ∨ j = 5 ∨ j = 6 ∨ j = 7 ∨ j = 8 by omega) with rfl | rfl | rfl | rfl | rfl | rfl | rfl | rfl | rfl <;> rfl) (Nat.le_of_ble_eq_true rfl) (Nat.le_of_ble_eq_true rfl) d_law_0 (fun q0 H hP hD hS => ?_)
  have hP : va_P D cls [zcO q0 0 [.null, .null, .null, .null, .null, .int (nI 0), .int (nI 0), .int (nI 0), .int (nI 0)]] H := hP
  have hD : va_D (fun q : Nat => s.heap.size ≤ q) [zcO q0 0 [.null, .null, .null, .null, .null, .int (nI 0), .int (nI 0), .int (nI 0), .int (nI 0)]] := hD
  refine W.widen (k := 1) (n := 9) (Nat.le_of_ble_eq_true rfl) (Nat.le_of_ble_eq_true rfl) ?_
  refine lv_dup hx hb d_law_3 rfl ?_
  refine call_v (rm := { frames := 2, cells := 46, slots := 1652, locals := 32 }) hS hP hD hA (spl_mk (wc := [zcO q0 0 [.null, .null, .null, .null, .null, .int (nI 0), .int (nI 0), .int (nI 0), .int (nI 0)]]) (wr := []) [0] [] rfl rfl (by decide)) (run_I (n := 0) (As := []) (rest := [.ref q0]) C0 hK (c_TC_init l D cI H.size cM cK q0) rfl wt_21 wt_1 wt_19 wt_20 (by decide +kernel) ⟨Nat.le_of_ble_eq_true rfl, Nat.le_of_ble_eq_true rfl⟩ rfl hl.1 rfl (Nat.le_of_ble_eq_true rfl) d_law_4 ⟨Nat.le_of_ble_eq_true rfl, Nat.le_of_ble_eq_true rfl⟩) (fun u_4 H locs hw_4 hP hD hS => ?_)
  refine W.widen (k := 47) (n := 1661) (Nat.le_of_ble_eq_true rfl) (Nat.le_of_ble_eq_true rfl) ?_
  have hP : va_P D cls ([zcO q0 0 [.ref u_4.1, .ref u_4.2.1, .ref u_4.2.2.1, .ref u_4.2.2.2.1, .ref u_4.2.2.2.2.1, .int (nI 0), .int (nI 0), .int (nI 0), .int (nI 0)], zcQ u_4.2.1 cM 8 u_4.2.2.2.2.2.2.2.2.2.2.2.2.2.2.1, zcQ u_4.2.2.1 cK 10 (fun _ => none), zcO u_4.1 1 [.ref u_4.2.2.2.2.2.1, .ref u_4.2.2.2.2.2.2.1, .ref u_4.2.2.2.2.2.2.2.1], zcN cI u_4.2.2.2.2.2.1 6 (fun _ => 0), zcA cI u_4.2.2.2.2.2.2.1 36 (nA (fun _ => 0)), zcA cI u_4.2.2.2.2.2.2.2.1 36 (nA (fun _ => 0)), zcN cI u_4.2.2.2.2.1 6 (fun _ => 0), zcO u_4.2.2.2.1 2 [.ref u_4.2.2.2.2.2.2.2.2.1, .ref u_4.2.2.2.2.2.2.2.2.2.1, .ref u_4.2.2.2.2.2.2.2.2.2.2.1, .ref u_4.2.2.2.2.2.2.2.2.2.2.2.1, .ref u_4.2.2.2.2.2.2.2.2.2.2.2.2.1, .ref u_4.2.2.2.2.2.2.2.2.2.2.2.2.2.1, .int (nI 0)], zcN cI u_4.2.2.2.2.2.2.2.2.1 6 (fun _ => 0), zcN cI u_4.2.2.2.2.2.2.2.2.2.1 6 (fun _ => 0), zcN cI u_4.2.2.2.2.2.2.2.2.2.2.1 56 (fun _ => 0), zcN cI u_4.2.2.2.2.2.2.2.2.2.2.2.1 56 (fun _ => 0), zcN cI u_4.2.2.2.2.2.2.2.2.2.2.2.2.1 384 (fun _ => 0), zcN cI u_4.2.2.2.2.2.2.2.2.2.2.2.2.2.1 384 (fun _ => 0)] ++ (mpl cI u_4.2.2.2.2.2.2.2.2.2.2.2.2.2.2.2 8)) H := hP
  have hD : va_D (fun q : Nat => s.heap.size ≤ q) ([zcO q0 0 [.ref u_4.1, .ref u_4.2.1, .ref u_4.2.2.1, .ref u_4.2.2.2.1, .ref u_4.2.2.2.2.1, .int (nI 0), .int (nI 0), .int (nI 0), .int (nI 0)], zcQ u_4.2.1 cM 8 u_4.2.2.2.2.2.2.2.2.2.2.2.2.2.2.1, zcQ u_4.2.2.1 cK 10 (fun _ => none), zcO u_4.1 1 [.ref u_4.2.2.2.2.2.1, .ref u_4.2.2.2.2.2.2.1, .ref u_4.2.2.2.2.2.2.2.1], zcN cI u_4.2.2.2.2.2.1 6 (fun _ => 0), zcA cI u_4.2.2.2.2.2.2.1 36 (nA (fun _ => 0)), zcA cI u_4.2.2.2.2.2.2.2.1 36 (nA (fun _ => 0)), zcN cI u_4.2.2.2.2.1 6 (fun _ => 0), zcO u_4.2.2.2.1 2 [.ref u_4.2.2.2.2.2.2.2.2.1, .ref u_4.2.2.2.2.2.2.2.2.2.1, .ref u_4.2.2.2.2.2.2.2.2.2.2.1, .ref u_4.2.2.2.2.2.2.2.2.2.2.2.1, .ref u_4.2.2.2.2.2.2.2.2.2.2.2.2.1, .ref u_4.2.2.2.2.2.2.2.2.2.2.2.2.2.1, .int (nI 0)], zcN cI u_4.2.2.2.2.2.2.2.2.1 6 (fun _ => 0), zcN cI u_4.2.2.2.2.2.2.2.2.2.1 6 (fun _ => 0), zcN cI u_4.2.2.2.2.2.2.2.2.2.2.1 56 (fun _ => 0), zcN cI u_4.2.2.2.2.2.2.2.2.2.2.2.1 56 (fun _ => 0), zcN cI u_4.2.2.2.2.2.2.2.2.2.2.2.2.1 384 (fun _ => 0), zcN cI u_4.2.2.2.2.2.2.2.2.2.2.2.2.2.1 384 (fun _ => 0)] ++ (mpl cI u_4.2.2.2.2.2.2.2.2.2.2.2.2.2.2.2 8)) := hD
  refine lv_astore_n (lv' := [(1, .ref q0), (0, .ref b)]) hx hb d_law_7 rfl hl (by decide) rfl (fun ls hl => ?_)
  refine r_new C0 hK hP hD hS hA (ci := 10) rfl i_M t_M k_M wt_657 wt_658 wt_4 [.int (nI 0), .null, .null, .null, .int (nI 0), .null, .null, .null, .int (nI 0), .int (nI 0), .null, .null, .null, .null, .null, .null, .null, .null, .null, .null, .null, .null, .null, .null, .null, .null, .null, .null] (fun j hj => by rcases (show j = 0 ∨ j = 1 ∨ j = 2 ∨ j = 3 ∨ j = 4 ∨ j = 5 ∨ j = 6 ∨ j = 7 ∨ j = 8 ∨ j = 9 ∨ j = 10 ∨ j = 11 ∨ j = 12 ∨ j = 13 ∨ j = 14 ∨ j = 15 ∨ j = 16 ∨ j = 17 ∨ j = 18 ∨ j = 19 ∨ j = 20 ∨ j = 21 ∨ j = 22 ∨ j = 23 ∨ j = 24 ∨ j = 25 ∨ j = 26 ∨ j = 27 by omega) with rfl | rfl | rfl | rfl | rfl | rfl | rfl | rfl | rfl | rfl | rfl | rfl | rfl | rfl | rfl | rfl | rfl | rfl | rfl | rfl | rfl | rfl | rfl | rfl | rfl | rfl | rfl | rfl <;> rfl) (Nat.le_of_ble_eq_true rfl) (Nat.le_of_ble_eq_true rfl) d_law_8 (fun q8 H hP hD hS => ?_)
  have hP := hP.perm (pT _ _ _)
  have hD := hD.perm (pT _ _ _)
  have hP : va_P D cls ([zcO q0 0 [.ref u_4.1, .ref u_4.2.1, .ref u_4.2.2.1, .ref u_4.2.2.2.1, .ref u_4.2.2.2.2.1, .int (nI 0), .int (nI 0), .int (nI 0), .int (nI 0)], zcQ u_4.2.1 cM 8 u_4.2.2.2.2.2.2.2.2.2.2.2.2.2.2.1, zcQ u_4.2.2.1 cK 10 (fun _ => none), zcO u_4.1 1 [.ref u_4.2.2.2.2.2.1, .ref u_4.2.2.2.2.2.2.1, .ref u_4.2.2.2.2.2.2.2.1], zcN cI u_4.2.2.2.2.2.1 6 (fun _ => 0), zcA cI u_4.2.2.2.2.2.2.1 36 (nA (fun _ => 0)), zcA cI u_4.2.2.2.2.2.2.2.1 36 (nA (fun _ => 0)), zcN cI u_4.2.2.2.2.1 6 (fun _ => 0), zcO u_4.2.2.2.1 2 [.ref u_4.2.2.2.2.2.2.2.2.1, .ref u_4.2.2.2.2.2.2.2.2.2.1, .ref u_4.2.2.2.2.2.2.2.2.2.2.1, .ref u_4.2.2.2.2.2.2.2.2.2.2.2.1, .ref u_4.2.2.2.2.2.2.2.2.2.2.2.2.1, .ref u_4.2.2.2.2.2.2.2.2.2.2.2.2.2.1, .int (nI 0)], zcN cI u_4.2.2.2.2.2.2.2.2.1 6 (fun _ => 0), zcN cI u_4.2.2.2.2.2.2.2.2.2.1 6 (fun _ => 0), zcN cI u_4.2.2.2.2.2.2.2.2.2.2.1 56 (fun _ => 0), zcN cI u_4.2.2.2.2.2.2.2.2.2.2.2.1 56 (fun _ => 0), zcN cI u_4.2.2.2.2.2.2.2.2.2.2.2.2.1 384 (fun _ => 0), zcN cI u_4.2.2.2.2.2.2.2.2.2.2.2.2.2.1 384 (fun _ => 0), zcO q8 10 [.int (nI 0), .null, .null, .null, .int (nI 0), .null, .null, .null, .int (nI 0), .int (nI 0), .null, .null, .null, .null, .null, .null, .null, .null, .null, .null, .null, .null, .null, .null, .null, .null, .null, .null]] ++ (mpl cI u_4.2.2.2.2.2.2.2.2.2.2.2.2.2.2.2 8)) H := hP
  have hD : va_D (fun q : Nat => s.heap.size ≤ q) ([zcO q0 0 [.ref u_4.1, .ref u_4.2.1, .ref u_4.2.2.1, .ref u_4.2.2.2.1, .ref u_4.2.2.2.2.1, .int (nI 0), .int (nI 0), .int (nI 0), .int (nI 0)], zcQ u_4.2.1 cM 8 u_4.2.2.2.2.2.2.2.2.2.2.2.2.2.2.1, zcQ u_4.2.2.1 cK 10 (fun _ => none), zcO u_4.1 1 [.ref u_4.2.2.2.2.2.1, .ref u_4.2.2.2.2.2.2.1, .ref u_4.2.2.2.2.2.2.2.1], zcN cI u_4.2.2.2.2.2.1 6 (fun _ => 0), zcA cI u_4.2.2.2.2.2.2.1 36 (nA (fun _ => 0)), zcA cI u_4.2.2.2.2.2.2.2.1 36 (nA (fun _ => 0)), zcN cI u_4.2.2.2.2.1 6 (fun _ => 0), zcO u_4.2.2.2.1 2 [.ref u_4.2.2.2.2.2.2.2.2.1, .ref u_4.2.2.2.2.2.2.2.2.2.1, .ref u_4.2.2.2.2.2.2.2.2.2.2.1, .ref u_4.2.2.2.2.2.2.2.2.2.2.2.1, .ref u_4.2.2.2.2.2.2.2.2.2.2.2.2.1, .ref u_4.2.2.2.2.2.2.2.2.2.2.2.2.2.1, .int (nI 0)], zcN cI u_4.2.2.2.2.2.2.2.2.1 6 (fun _ => 0), zcN cI u_4.2.2.2.2.2.2.2.2.2.1 6 (fun _ => 0), zcN cI u_4.2.2.2.2.2.2.2.2.2.2.1 56 (fun _ => 0), zcN cI u_4.2.2.2.2.2.2.2.2.2.2.2.1 56 (fun _ => 0), zcN cI u_4.2.2.2.2.2.2.2.2.2.2.2.2.1 384 (fun _ => 0), zcN cI u_4.2.2.2.2.2.2.2.2.2.2.2.2.2.1 384 (fun _ => 0), zcO q8 10 [.int (nI 0), .null, .null, .null, .int (nI 0), .null, .null, .null, .int (nI 0), .int (nI 0), .null, .null, .null, .null, .null, .null, .null, .null, .null, .null, .null, .null, .null, .null, .null, .null, .null, .null]] ++ (mpl cI u_4.2.2.2.2.2.2.2.2.2.2.2.2.2.2.2 8)) := hD
  refine W.widen (k := 48) (n := 1689) (Nat.le_of_ble_eq_true rfl) (Nat.le_of_ble_eq_true rfl) ?_
  refine lv_dup hx hb d_law_11 rfl ?_
  refine call_v (rm := { frames := 1, cells := 24, slots := 2262, locals := 12 }) hS hP hD hA (spl_app (mpl cI u_4.2.2.2.2.2.2.2.2.2.2.2.2.2.2.2 8) (spl_mk (wc := [zcO q8 10 [.int (nI 0), .null, .null, .null, .int (nI 0), .null, .null, .null, .int (nI 0), .int (nI 0), .null, .null, .null, .null, .null, .null, .null, .null, .null, .null, .null, .null, .null, .null, .null, .null, .null, .null]]) (wr := [zcO q0 0 [.ref u_4.1, .ref u_4.2.1, .ref u_4.2.2.1, .ref u_4.2.2.2.1, .ref u_4.2.2.2.2.1, .int (nI 0), .int (nI 0), .int (nI 0), .int (nI 0)], zcQ u_4.2.1 cM 8 u_4.2.2.2.2.2.2.2.2.2.2.2.2.2.2.1, zcQ u_4.2.2.1 cK 10 (fun _ => none), zcO u_4.1 1 [.ref u_4.2.2.2.2.2.1, .ref u_4.2.2.2.2.2.2.1, .ref u_4.2.2.2.2.2.2.2.1], zcN cI u_4.2.2.2.2.2.1 6 (fun _ => 0), zcA cI u_4.2.2.2.2.2.2.1 36 (nA (fun _ => 0)), zcA cI u_4.2.2.2.2.2.2.2.1 36 (nA (fun _ => 0)), zcN cI u_4.2.2.2.2.1 6 (fun _ => 0), zcO u_4.2.2.2.1 2 [.ref u_4.2.2.2.2.2.2.2.2.1, .ref u_4.2.2.2.2.2.2.2.2.2.1, .ref u_4.2.2.2.2.2.2.2.2.2.2.1, .ref u_4.2.2.2.2.2.2.2.2.2.2.2.1, .ref u_4.2.2.2.2.2.2.2.2.2.2.2.2.1, .ref u_4.2.2.2.2.2.2.2.2.2.2.2.2.2.1, .int (nI 0)], zcN cI u_4.2.2.2.2.2.2.2.2.1 6 (fun _ => 0), zcN cI u_4.2.2.2.2.2.2.2.2.2.1 6 (fun _ => 0), zcN cI u_4.2.2.2.2.2.2.2.2.2.2.1 56 (fun _ => 0), zcN cI u_4.2.2.2.2.2.2.2.2.2.2.2.1 56 (fun _ => 0), zcN cI u_4.2.2.2.2.2.2.2.2.2.2.2.2.1 384 (fun _ => 0), zcN cI u_4.2.2.2.2.2.2.2.2.2.2.2.2.2.1 384 (fun _ => 0)]) [15] [0, 1, 2, 3, 4, 5, 6, 7, 8, 9, 10, 11, 12, 13, 14] rfl rfl (by decide))) (run_I (n := 0) (As := []) (rest := [.ref q8]) C0 (hK.sub [] rfl) (c_M_init l D cI H.size q8) rfl wt_661 wt_4 wt_659 wt_660 (by decide +kernel) ⟨Nat.le_of_ble_eq_true rfl, Nat.le_of_ble_eq_true rfl⟩ rfl hl.1 rfl (Nat.le_of_ble_eq_true rfl) d_law_12 ⟨Nat.le_of_ble_eq_true rfl, Nat.le_of_ble_eq_true rfl⟩) (fun u_12 H locs hw_12 hP hD hS => ?_)
  refine W.widen (k := 72) (n := 3951) (Nat.le_of_ble_eq_true rfl) (Nat.le_of_ble_eq_true rfl) ?_
  have hP := hP.perm (pT _ _ _)
  have hD := hD.perm (pT _ _ _)
  have hP : va_P D cls ([zcO q0 0 [.ref u_4.1, .ref u_4.2.1, .ref u_4.2.2.1, .ref u_4.2.2.2.1, .ref u_4.2.2.2.2.1, .int (nI 0), .int (nI 0), .int (nI 0), .int (nI 0)], zcQ u_4.2.1 cM 8 u_4.2.2.2.2.2.2.2.2.2.2.2.2.2.2.1, zcQ u_4.2.2.1 cK 10 (fun _ => none), zcO u_4.1 1 [.ref u_4.2.2.2.2.2.1, .ref u_4.2.2.2.2.2.2.1, .ref u_4.2.2.2.2.2.2.2.1], zcN cI u_4.2.2.2.2.2.1 6 (fun _ => 0), zcA cI u_4.2.2.2.2.2.2.1 36 (nA (fun _ => 0)), zcA cI u_4.2.2.2.2.2.2.2.1 36 (nA (fun _ => 0)), zcN cI u_4.2.2.2.2.1 6 (fun _ => 0), zcO u_4.2.2.2.1 2 [.ref u_4.2.2.2.2.2.2.2.2.1, .ref u_4.2.2.2.2.2.2.2.2.2.1, .ref u_4.2.2.2.2.2.2.2.2.2.2.1, .ref u_4.2.2.2.2.2.2.2.2.2.2.2.1, .ref u_4.2.2.2.2.2.2.2.2.2.2.2.2.1, .ref u_4.2.2.2.2.2.2.2.2.2.2.2.2.2.1, .int (nI 0)], zcN cI u_4.2.2.2.2.2.2.2.2.1 6 (fun _ => 0), zcN cI u_4.2.2.2.2.2.2.2.2.2.1 6 (fun _ => 0), zcN cI u_4.2.2.2.2.2.2.2.2.2.2.1 56 (fun _ => 0), zcN cI u_4.2.2.2.2.2.2.2.2.2.2.2.1 56 (fun _ => 0), zcN cI u_4.2.2.2.2.2.2.2.2.2.2.2.2.1 384 (fun _ => 0), zcN cI u_4.2.2.2.2.2.2.2.2.2.2.2.2.2.1 384 (fun _ => 0), zcO q8 10 (oM u_12 0 0 0 0), zcN cI (u_12 1) 6 (fun _ => 0), zcA cI (u_12 2) 36 (nA (fun _ => 0)), zcA cI (u_12 3) 36 (nA (fun _ => 0)), zcN cI (u_12 5) 48 (fun _ => 0), zcA cI (u_12 6) 288 (nA (fun _ => 0)), zcA cI (u_12 7) 288 (nA (fun _ => 0)), zcN cI (u_12 10) 10 (fun _ => 0), zcN cI (u_12 11) 10 (fun _ => 0), zcN cI (u_12 12) 10 (fun _ => 0), zcN cI (u_12 13) 60 (fun _ => 0), zcN cI (u_12 14) 10 (fun _ => 0), zcN cI (u_12 15) 10 (fun _ => 0), zcN cI (u_12 16) 10 (fun _ => 0), zcN cI (u_12 17) 10 (fun _ => 0), zcN cI (u_12 18) 200 (fun _ => 0), zcN cI (u_12 19) 300 (fun _ => 0), zcN cI (u_12 20) 300 (fun _ => 0), zcN cI (u_12 21) 300 (fun _ => 0), zcN cI (u_12 22) 300 (fun _ => 0), zcN cI (u_12 23) 6 (fun _ => 0), zcP cI (u_12 24) 6 (fun _ => some 0), zcP cI (u_12 25) 6 (fun _ => some 0), zcN cI (u_12 26) 6 (fun _ => 0), zcN cI (u_12 27) 6 (fun _ => 0)] ++ (mpl cI u_4.2.2.2.2.2.2.2.2.2.2.2.2.2.2.2 8)) H := hP
  have hD : va_D (fun q : Nat => s.heap.size ≤ q) ([zcO q0 0 [.ref u_4.1, .ref u_4.2.1, .ref u_4.2.2.1, .ref u_4.2.2.2.1, .ref u_4.2.2.2.2.1, .int (nI 0), .int (nI 0), .int (nI 0), .int (nI 0)], zcQ u_4.2.1 cM 8 u_4.2.2.2.2.2.2.2.2.2.2.2.2.2.2.1, zcQ u_4.2.2.1 cK 10 (fun _ => none), zcO u_4.1 1 [.ref u_4.2.2.2.2.2.1, .ref u_4.2.2.2.2.2.2.1, .ref u_4.2.2.2.2.2.2.2.1], zcN cI u_4.2.2.2.2.2.1 6 (fun _ => 0), zcA cI u_4.2.2.2.2.2.2.1 36 (nA (fun _ => 0)), zcA cI u_4.2.2.2.2.2.2.2.1 36 (nA (fun _ => 0)), zcN cI u_4.2.2.2.2.1 6 (fun _ => 0), zcO u_4.2.2.2.1 2 [.ref u_4.2.2.2.2.2.2.2.2.1, .ref u_4.2.2.2.2.2.2.2.2.2.1, .ref u_4.2.2.2.2.2.2.2.2.2.2.1, .ref u_4.2.2.2.2.2.2.2.2.2.2.2.1, .ref u_4.2.2.2.2.2.2.2.2.2.2.2.2.1, .ref u_4.2.2.2.2.2.2.2.2.2.2.2.2.2.1, .int (nI 0)], zcN cI u_4.2.2.2.2.2.2.2.2.1 6 (fun _ => 0), zcN cI u_4.2.2.2.2.2.2.2.2.2.1 6 (fun _ => 0), zcN cI u_4.2.2.2.2.2.2.2.2.2.2.1 56 (fun _ => 0), zcN cI u_4.2.2.2.2.2.2.2.2.2.2.2.1 56 (fun _ => 0), zcN cI u_4.2.2.2.2.2.2.2.2.2.2.2.2.1 384 (fun _ => 0), zcN cI u_4.2.2.2.2.2.2.2.2.2.2.2.2.2.1 384 (fun _ => 0), zcO q8 10 (oM u_12 0 0 0 0), zcN cI (u_12 1) 6 (fun _ => 0), zcA cI (u_12 2) 36 (nA (fun _ => 0)), zcA cI (u_12 3) 36 (nA (fun _ => 0)), zcN cI (u_12 5) 48 (fun _ => 0), zcA cI (u_12 6) 288 (nA (fun _ => 0)), zcA cI (u_12 7) 288 (nA (fun _ => 0)), zcN cI (u_12 10) 10 (fun _ => 0), zcN cI (u_12 11) 10 (fun _ => 0), zcN cI (u_12 12) 10 (fun _ => 0), zcN cI (u_12 13) 60 (fun _ => 0), zcN cI (u_12 14) 10 (fun _ => 0), zcN cI (u_12 15) 10 (fun _ => 0), zcN cI (u_12 16) 10 (fun _ => 0), zcN cI (u_12 17) 10 (fun _ => 0), zcN cI (u_12 18) 200 (fun _ => 0), zcN cI (u_12 19) 300 (fun _ => 0), zcN cI (u_12 20) 300 (fun _ => 0), zcN cI (u_12 21) 300 (fun _ => 0), zcN cI (u_12 22) 300 (fun _ => 0), zcN cI (u_12 23) 6 (fun _ => 0), zcP cI (u_12 24) 6 (fun _ => some 0), zcP cI (u_12 25) 6 (fun _ => some 0), zcN cI (u_12 26) 6 (fun _ => 0), zcN cI (u_12 27) 6 (fun _ => 0)] ++ (mpl cI u_4.2.2.2.2.2.2.2.2.2.2.2.2.2.2.2 8)) := hD
  refine lv_astore_n (lv' := [(2, .ref q8), (1, .ref q0), (0, .ref b)]) hx hb d_law_15 rfl hl (by decide) rfl (fun ls hl => ?_)
  refine lv_iconst (v := (nI 0)) hx hb d_law_16 (by decide) ?_
  refine lv_istore_n (lv' := [(3, .int (nI 0)), (2, .ref q8), (1, .ref q0), (0, .ref b)]) hx hb d_law_17 rfl hl (by decide) rfl (fun ls hl => ?_)
  have hP : va_P D cls ([zcO q0 0 [.ref u_4.1, .ref u_4.2.1, .ref u_4.2.2.1, .ref u_4.2.2.2.1, .ref u_4.2.2.2.2.1, .int (nI 0), .int (nI 0), .int (nI 0), .int (nI 0)], zcQ u_4.2.1 cM 8 u_4.2.2.2.2.2.2.2.2.2.2.2.2.2.2.1, zcQ u_4.2.2.1 cK 10 (fun _ => none), zcO u_4.1 1 [.ref u_4.2.2.2.2.2.1, .ref u_4.2.2.2.2.2.2.1, .ref u_4.2.2.2.2.2.2.2.1], zcN cI u_4.2.2.2.2.2.1 6 (fun _ => 0), zcA cI u_4.2.2.2.2.2.2.1 36 (nA (fun _ => 0)), zcA cI u_4.2.2.2.2.2.2.2.1 36 (nA (fun _ => 0)), zcN cI u_4.2.2.2.2.1 6 (fun _ => 0), zcO u_4.2.2.2.1 2 [.ref u_4.2.2.2.2.2.2.2.2.1, .ref u_4.2.2.2.2.2.2.2.2.2.1, .ref u_4.2.2.2.2.2.2.2.2.2.2.1, .ref u_4.2.2.2.2.2.2.2.2.2.2.2.1, .ref u_4.2.2.2.2.2.2.2.2.2.2.2.2.1, .ref u_4.2.2.2.2.2.2.2.2.2.2.2.2.2.1, .int (nI 0)], zcN cI u_4.2.2.2.2.2.2.2.2.1 6 (fun _ => 0), zcN cI u_4.2.2.2.2.2.2.2.2.2.1 6 (fun _ => 0), zcN cI u_4.2.2.2.2.2.2.2.2.2.2.1 56 (fun _ => 0), zcN cI u_4.2.2.2.2.2.2.2.2.2.2.2.1 56 (fun _ => 0), zcN cI u_4.2.2.2.2.2.2.2.2.2.2.2.2.1 384 (fun _ => 0), zcN cI u_4.2.2.2.2.2.2.2.2.2.2.2.2.2.1 384 (fun _ => 0), zcO q8 10 (oM u_12 0 0 0 0), zcN cI (u_12 1) 6 (fun _ => 0), zcA cI (u_12 2) 36 (nA (fun _ => 0)), zcA cI (u_12 3) 36 (nA (fun _ => 0)), zcN cI (u_12 5) 48 (fun _ => 0), zcA cI (u_12 6) 288 (nA (fun _ => 0)), zcA cI (u_12 7) 288 (nA (fun _ => 0)), zcN cI (u_12 10) 10 (fun _ => 0), zcN cI (u_12 11) 10 (fun _ => 0), zcN cI (u_12 12) 10 (fun _ => 0), zcN cI (u_12 13) 60 (fun _ => 0), zcN cI (u_12 14) 10 (fun _ => 0), zcN cI (u_12 15) 10 (fun _ => 0), zcN cI (u_12 16) 10 (fun _ => 0), zcN cI (u_12 17) 10 (fun _ => 0), zcN cI (u_12 18) 200 (fun _ => 0), zcN cI (u_12 19) 300 (fun _ => 0), zcN cI (u_12 20) 300 (fun _ => 0), zcN cI (u_12 21) 300 (fun _ => 0), zcN cI (u_12 22) 300 (fun _ => 0), zcN cI (u_12 23) 6 (fun _ => 0), zcP cI (u_12 24) 6 (fun _ => some 0), zcP cI (u_12 25) 6 (fun _ => some 0), zcN cI (u_12 26) 6 (fun _ => 0), zcN cI (u_12 27) 6 (fun _ => 0)] ++ (mpl cI u_4.2.2.2.2.2.2.2.2.2.2.2.2.2.2.2 8)) H := hP.subT [0, 1, 2, 3, 4, 5, 6, 7, 8, 9, 10, 11, 12, 13, 14, 15, 16, 17, 18, 19, 20, 21, 22, 23, 24, 25, 26, 27, 28, 29, 30, 31, 32, 33, 34, 35, 36, 37, 38, 39] rfl
  have hD : va_D (fun q : Nat => s.heap.size ≤ q) ([zcO q0 0 [.ref u_4.1, .ref u_4.2.1, .ref u_4.2.2.1, .ref u_4.2.2.2.1, .ref u_4.2.2.2.2.1, .int (nI 0), .int (nI 0), .int (nI 0), .int (nI 0)], zcQ u_4.2.1 cM 8 u_4.2.2.2.2.2.2.2.2.2.2.2.2.2.2.1, zcQ u_4.2.2.1 cK 10 (fun _ => none), zcO u_4.1 1 [.ref u_4.2.2.2.2.2.1, .ref u_4.2.2.2.2.2.2.1, .ref u_4.2.2.2.2.2.2.2.1], zcN cI u_4.2.2.2.2.2.1 6 (fun _ => 0), zcA cI u_4.2.2.2.2.2.2.1 36 (nA (fun _ => 0)), zcA cI u_4.2.2.2.2.2.2.2.1 36 (nA (fun _ => 0)), zcN cI u_4.2.2.2.2.1 6 (fun _ => 0), zcO u_4.2.2.2.1 2 [.ref u_4.2.2.2.2.2.2.2.2.1, .ref u_4.2.2.2.2.2.2.2.2.2.1, .ref u_4.2.2.2.2.2.2.2.2.2.2.1, .ref u_4.2.2.2.2.2.2.2.2.2.2.2.1, .ref u_4.2.2.2.2.2.2.2.2.2.2.2.2.1, .ref u_4.2.2.2.2.2.2.2.2.2.2.2.2.2.1, .int (nI 0)], zcN cI u_4.2.2.2.2.2.2.2.2.1 6 (fun _ => 0), zcN cI u_4.2.2.2.2.2.2.2.2.2.1 6 (fun _ => 0), zcN cI u_4.2.2.2.2.2.2.2.2.2.2.1 56 (fun _ => 0), zcN cI u_4.2.2.2.2.2.2.2.2.2.2.2.1 56 (fun _ => 0), zcN cI u_4.2.2.2.2.2.2.2.2.2.2.2.2.1 384 (fun _ => 0), zcN cI u_4.2.2.2.2.2.2.2.2.2.2.2.2.2.1 384 (fun _ => 0), zcO q8 10 (oM u_12 0 0 0 0), zcN cI (u_12 1) 6 (fun _ => 0), zcA cI (u_12 2) 36 (nA (fun _ => 0)), zcA cI (u_12 3) 36 (nA (fun _ => 0)), zcN cI (u_12 5) 48 (fun _ => 0), zcA cI (u_12 6) 288 (nA (fun _ => 0)), zcA cI (u_12 7) 288 (nA (fun _ => 0)), zcN cI (u_12 10) 10 (fun _ => 0), zcN cI (u_12 11) 10 (fun _ => 0), zcN cI (u_12 12) 10 (fun _ => 0), zcN cI (u_12 13) 60 (fun _ => 0), zcN cI (u_12 14) 10 (fun _ => 0), zcN cI (u_12 15) 10 (fun _ => 0), zcN cI (u_12 16) 10 (fun _ => 0), zcN cI (u_12 17) 10 (fun _ => 0), zcN cI (u_12 18) 200 (fun _ => 0), zcN cI (u_12 19) 300 (fun _ => 0), zcN cI (u_12 20) 300 (fun _ => 0), zcN cI (u_12 21) 300 (fun _ => 0), zcN cI (u_12 22) 300 (fun _ => 0), zcN cI (u_12 23) 6 (fun _ => 0), zcP cI (u_12 24) 6 (fun _ => some 0), zcP cI (u_12 25) 6 (fun _ => some 0), zcN cI (u_12 26) 6 (fun _ => 0), zcN cI (u_12 27) 6 (fun _ => 0)] ++ (mpl cI u_4.2.2.2.2.2.2.2.2.2.2.2.2.2.2.2 8)) := hD.subT [0, 1, 2, 3, 4, 5, 6, 7, 8, 9, 10, 11, 12, 13, 14, 15, 16, 17, 18, 19, 20, 21, 22, 23, 24, 25, 26, 27, 28, 29, 30, 31, 32, 33, 34, 35, 36, 37, 38, 39] (by decide) rfl
  have hP : va_P D cls ([zcO q0 0 [.ref u_4.1, .ref u_4.2.1, .ref u_4.2.2.1, .ref u_4.2.2.2.1, .ref u_4.2.2.2.2.1, .int (nI 0), .int (nI 0), .int (nI 0), .int (nI 0)], zcQ u_4.2.1 cM 8 u_4.2.2.2.2.2.2.2.2.2.2.2.2.2.2.1, zcQ u_4.2.2.1 cK 10 (fun _ => none), zcO u_4.1 1 [.ref u_4.2.2.2.2.2.1, .ref u_4.2.2.2.2.2.2.1, .ref u_4.2.2.2.2.2.2.2.1], zcN cI u_4.2.2.2.2.2.1 6 (fun _ => 0), zcA cI u_4.2.2.2.2.2.2.1 36 (nA (fun _ => 0)), zcA cI u_4.2.2.2.2.2.2.2.1 36 (nA (fun _ => 0)), zcN cI u_4.2.2.2.2.1 6 (fun _ => 0), zcO u_4.2.2.2.1 2 [.ref u_4.2.2.2.2.2.2.2.2.1, .ref u_4.2.2.2.2.2.2.2.2.2.1, .ref u_4.2.2.2.2.2.2.2.2.2.2.1, .ref u_4.2.2.2.2.2.2.2.2.2.2.2.1, .ref u_4.2.2.2.2.2.2.2.2.2.2.2.2.1, .ref u_4.2.2.2.2.2.2.2.2.2.2.2.2.2.1, .int (nI 0)], zcN cI u_4.2.2.2.2.2.2.2.2.1 6 (fun _ => 0), zcN cI u_4.2.2.2.2.2.2.2.2.2.1 6 (fun _ => 0), zcN cI u_4.2.2.2.2.2.2.2.2.2.2.1 56 (fun _ => 0), zcN cI u_4.2.2.2.2.2.2.2.2.2.2.2.1 56 (fun _ => 0), zcN cI u_4.2.2.2.2.2.2.2.2.2.2.2.2.1 384 (fun _ => 0), zcN cI u_4.2.2.2.2.2.2.2.2.2.2.2.2.2.1 384 (fun _ => 0), zcO q8 10 (oM u_12 0 0 0 0), zcN cI (u_12 1) 6 (fun _ => 0), zcA cI (u_12 2) 36 (nA (fun _ => 0)), zcA cI (u_12 3) 36 (nA (fun _ => 0)), zcN cI (u_12 5) 48 (fun _ => 0), zcA cI (u_12 6) 288 (nA (fun _ => 0)), zcA cI (u_12 7) 288 (nA (fun _ => 0)), zcN cI (u_12 10) 10 (fun _ => 0), zcN cI (u_12 11) 10 (fun _ => 0), zcN cI (u_12 12) 10 (fun _ => 0), zcN cI (u_12 13) 60 (fun _ => 0), zcN cI (u_12 14) 10 (fun _ => 0), zcN cI (u_12 15) 10 (fun _ => 0), zcN cI (u_12 16) 10 (fun _ => 0), zcN cI (u_12 17) 10 (fun _ => 0), zcN cI (u_12 18) 200 (fun _ => 0), zcN cI (u_12 19) 300 (fun _ => 0), zcN cI (u_12 20) 300 (fun _ => 0), zcN cI (u_12 21) 300 (fun _ => 0), zcN cI (u_12 22) 300 (fun _ => 0), zcN cI (u_12 23) 6 (fun _ => 0), zcP cI (u_12 24) 6 (fun _ => some 0), zcP cI (u_12 25) 6 (fun _ => some 0), zcN cI (u_12 26) 6 (fun _ => 0), zcN cI (u_12 27) 6 (fun _ => 0)] ++ (pool cI (fun _ => kNw 0 0 0 0 0 0 0 0 0) 0 ++ mpl cI u_4.2.2.2.2.2.2.2.2.2.2.2.2.2.2.2 8)) H := by rw [show pool cI (fun _ => kNw 0 0 0 0 0 0 0 0 0) 0 = [] from rfl, List.nil_append]; exact hP
  have hD : va_D (fun q : Nat => s.heap.size ≤ q) ([zcO q0 0 [.ref u_4.1, .ref u_4.2.1, .ref u_4.2.2.1, .ref u_4.2.2.2.1, .ref u_4.2.2.2.2.1, .int (nI 0), .int (nI 0), .int (nI 0), .int (nI 0)], zcQ u_4.2.1 cM 8 u_4.2.2.2.2.2.2.2.2.2.2.2.2.2.2.1, zcQ u_4.2.2.1 cK 10 (fun _ => none), zcO u_4.1 1 [.ref u_4.2.2.2.2.2.1, .ref u_4.2.2.2.2.2.2.1, .ref u_4.2.2.2.2.2.2.2.1], zcN cI u_4.2.2.2.2.2.1 6 (fun _ => 0), zcA cI u_4.2.2.2.2.2.2.1 36 (nA (fun _ => 0)), zcA cI u_4.2.2.2.2.2.2.2.1 36 (nA (fun _ => 0)), zcN cI u_4.2.2.2.2.1 6 (fun _ => 0), zcO u_4.2.2.2.1 2 [.ref u_4.2.2.2.2.2.2.2.2.1, .ref u_4.2.2.2.2.2.2.2.2.2.1, .ref u_4.2.2.2.2.2.2.2.2.2.2.1, .ref u_4.2.2.2.2.2.2.2.2.2.2.2.1, .ref u_4.2.2.2.2.2.2.2.2.2.2.2.2.1, .ref u_4.2.2.2.2.2.2.2.2.2.2.2.2.2.1, .int (nI 0)], zcN cI u_4.2.2.2.2.2.2.2.2.1 6 (fun _ => 0), zcN cI u_4.2.2.2.2.2.2.2.2.2.1 6 (fun _ => 0), zcN cI u_4.2.2.2.2.2.2.2.2.2.2.1 56 (fun _ => 0), zcN cI u_4.2.2.2.2.2.2.2.2.2.2.2.1 56 (fun _ => 0), zcN cI u_4.2.2.2.2.2.2.2.2.2.2.2.2.1 384 (fun _ => 0), zcN cI u_4.2.2.2.2.2.2.2.2.2.2.2.2.2.1 384 (fun _ => 0), zcO q8 10 (oM u_12 0 0 0 0), zcN cI (u_12 1) 6 (fun _ => 0), zcA cI (u_12 2) 36 (nA (fun _ => 0)), zcA cI (u_12 3) 36 (nA (fun _ => 0)), zcN cI (u_12 5) 48 (fun _ => 0), zcA cI (u_12 6) 288 (nA (fun _ => 0)), zcA cI (u_12 7) 288 (nA (fun _ => 0)), zcN cI (u_12 10) 10 (fun _ => 0), zcN cI (u_12 11) 10 (fun _ => 0), zcN cI (u_12 12) 10 (fun _ => 0), zcN cI (u_12 13) 60 (fun _ => 0), zcN cI (u_12 14) 10 (fun _ => 0), zcN cI (u_12 15) 10 (fun _ => 0), zcN cI (u_12 16) 10 (fun _ => 0), zcN cI (u_12 17) 10 (fun _ => 0), zcN cI (u_12 18) 200 (fun _ => 0), zcN cI (u_12 19) 300 (fun _ => 0), zcN cI (u_12 20) 300 (fun _ => 0), zcN cI (u_12 21) 300 (fun _ => 0), zcN cI (u_12 22) 300 (fun _ => 0), zcN cI (u_12 23) 6 (fun _ => 0), zcP cI (u_12 24) 6 (fun _ => some 0), zcP cI (u_12 25) 6 (fun _ => some 0), zcN cI (u_12 26) 6 (fun _ => 0), zcN cI (u_12 27) 6 (fun _ => 0)] ++ (pool cI (fun _ => kNw 0 0 0 0 0 0 0 0 0) 0 ++ mpl cI u_4.2.2.2.2.2.2.2.2.2.2.2.2.2.2.2 8)) := by rw [show pool cI (fun _ => kNw 0 0 0 0 0 0 0 0 0) 0 = [] from rfl, List.nil_append]; exact hD
  refine W.widen (k := 200) (n := 9000) (Nat.le_of_ble_eq_true rfl) (Nat.le_of_ble_eq_true rfl) ?_
  exact law_loop (mf8 := u_4.2.2.2.2.2.2.2.2.2.2.2.2.2.2.1) C0 hr hlocks hK hA (fun _ h => h) hX hbl hbA hL 512 0 200 9000 0 (by omega) (by decide) (by decide) (by decide) (by decide) 0 0 0 0 (fun _ => none) (fun _ => kNw 0 0 0 0 0 0 0 0 0) u_4.2.2.2.2.2.2.2.2.2.2.2.2.2.2.2 (fun _ => 0) (nA (fun _ => 0)) (nA (fun _ => 0)) (fun _ => 0) 0 (fun _ => 0) (fun _ => 0) (fun _ => 0) (fun _ => 0) (fun _ => 0) (fun _ => 0) (fun _ _ => 0) (fun _ => nA (fun _ => 0)) (fun _ => some 0) (fun _ => some 0) ⟨⟨Nat.zero_le _, Nat.zero_le _, Nat.zero_le _⟩, fun j hj => absurd hj (Nat.not_lt_zero _), hw_4, ⟨fun j hj => absurd hj (Nat.not_lt_zero _), fun _ => Nat.zero_le _, fun _ => Nat.zero_le _, fun _ => Nat.zero_lt_succ _, fun _ => Nat.zero_lt_succ _, fun _ => Nat.zero_lt_succ _, fun _ => Nat.zero_lt_succ _, fun _ => Nat.zero_lt_succ _, fun _ => Nat.zero_le _⟩, ⟨fun j hj => absurd hj (Nat.not_lt_zero _), fun _ _ => rfl, ⟨fun _ => Nat.zero_lt_succ _, fun j hj => absurd hj (Nat.not_lt_zero _)⟩, fun _ => Nat.zero_lt_succ _, fun j hj => absurd hj (Nat.not_lt_zero _), fun j hj => absurd hj (Nat.not_lt_zero _)⟩, mR_0 (fun _ => Nat.zero_lt_succ _), fun _ => Nat.zero_lt_succ _, ⟨fun _ => Nat.zero_lt_succ _, fun _ => Nat.zero_le _, fun _ => Nat.zero_le _, fun _ => Nat.zero_le _⟩, Nat.le_refl _, fun _ => Nat.zero_lt_succ _⟩ _ _ _ hP hD hS (lv_sub hl [0, 3, 2, 1] rfl)
set_option maxHeartbeats 4000000 in
theorem lw_walk (l : Launch) (b : Addr) (xs : List Int32) : MetFree l x (headSpec (Jvm.Cond.code x code maxLocals ret :: tables_1) room_1) (lw_P b xs) (fun _ _ _ _ _ => True) lw_Q := by
  refine MetFree.of_bodyS (code := code) (maxLocals := maxLocals) (ret := ret) (by decide) ?_ ?_
  · intro args s m h hn
    obtain ⟨meth, c, h1, h2, h3, h4, h5, h6, -, -⟩ := Cond.code_spec hn (atoms_spec (ws := Jvm.Cond.code x code maxLocals ret :: tables_1) h _ List.mem_cons_self)
    exact ⟨meth, c, h1, h2, h3, h4, h5, h6⟩
  · intro p e s m args below meth c s₁ B hml0 hP _
    obtain ⟨rfl, hx, hbd, hgv⟩ := hP
    obtain ⟨scr, harrAt, hlist, hof, hsmall⟩ := hx
    obtain ⟨hcb, hkn, -, -⟩ := State.arrayAt?_spec harrAt
    have hown : s.vm.findClass R_law = some m.cls := findClass_of_methodNamed B.named
    have hts0 : ∀ c ∈ (Jvm.Cond.code x code maxLocals ret :: tables_1), c.before #[Value.ref b] s = true := atoms_spec (ws := Jvm.Cond.code x code maxLocals ret :: tables_1) B.pre
    have hts : ∀ w ∈ lw_tbl, w.before #[Value.ref b] s = true := k2_hts_sels lw_privs (fun w hw => hts0 w (List.mem_cons_of_mem _ hw)) lw_privs_ok
    have hml : c.maxLocals = 4 := B.maxLocals_eq (hts0 _ List.mem_cons_self)
    have X₀ : Stand p l e room_1 s m #[Value.ref b] below meth c s₁ [] 0 0 := Stand.of_body B
    have hh0 : s₁.heap = s.heap := by rw [B.state]; rfl
    have hsz : scr.slots.size = xs.length := by rw [← Array.length_toList, hlist, List.length_map]
    have hval : ∀ j : Nat, j < xs.length → scr.slots[j]? = some (.int (xs.getD j 0)) := fun j hj => by
      rw [← Array.getElem?_toList, hlist]
      simp [hj]
    have hbl : b < s.heap.size := (Array.getElem?_eq_some_iff.mp hcb).1
    have hX : va_X b xs.length (fun j => xs.getD j 0) s s.heap := ⟨scr, hcb, hof, hkn, hsz, hval⟩
    have K : W p l e room_1 s m #[Value.ref b] below meth c s₁.heap [] 0 0 (lw_Z below #[Value.ref b] s) (entryFrame m ([Value.ref b] : List Value).toArray 4) := by
      rw [hh0]
      exact whole_start l hbd ⟨B.exec, B.bytes, B.returns, hml, hown, hts, hX, hbl, B.notSynchronized, hgv⟩
    obtain ⟨t, a1, o, b1, b2, b3⟩ := K s₁ rfl X₀
    exact ⟨t, o, a1, b1, b2, b3⟩
theorem lw_pre_spec {args : Array Value} {s : State} (h : (Jvm.Cond.and given_1 narrow_1).before args s = true) (hr : rest_1_c.before args s = true) : ∃ (b : Addr) (xs : List Int32), lw_P b xs args s := by
  have hs := flat_of_before _ h
  have hq := flat_of_before _ hr
  have hc : (Cond.count 1).before args s = true := hs _ (by decide +kernel)
  have harr : (Cond.arrayOf (.arg 0) .int).before args s = true := hs _ (by decide +kernel)
  have hle : (Cond.le (.length (.arg 0)) (.int 3072)).before args s = true := hs _ (by decide +kernel)
  have hlen : (Cond.isInt (.length (.arg 0))).before args s = true := hq _ (by decide +kernel)
  have hall : (Cond.all (.arg 0) (.isInt (.elem (.arg 0) (.index 0)))).before args s = true := hq _ (by decide +kernel)
  obtain ⟨b, xs, hb, hx⟩ := State.ints_of_pre rfl harr hlen hall
  have hsm : xs.length < 2 ^ 31 := hx.choose_spec.2.2.2
  have hev : (Term.length (.arg 0)).eval args s none [] s = some (.int xs.length.toInt32) := hx.length_eval hb
  have hv := Cond.le_ints hev (show (Term.int 3072).eval args s none [] s = some (.int 3072) from rfl)
  have hd : xs.length.toInt32 ≤ 3072 := by
    simpa [Cond.before, Cond.holds, hv] using hle
  have hN : xs.length ≤ 3072 := (Int32.ofNat_le_ofNat hsm (by decide)).mp (show Int32.ofNat xs.length ≤ Int32.ofNat 3072 from hd)
  exact ⟨b, xs, Cond.one_arg hc (show args[0]? = some (.ref b) from hb), hx, hN, h⟩
theorem lw_comes (l : Launch) : Comes l x (Jvm.Cond.code x code maxLocals ret :: tables_1) room_1 (fun tb e args s => Calls_1 tb e args s ∧ rest_1 tb e args s ∧ Pre_1 tb e args s)
    (fun _ _ args s o t => lw_Q args s o t) := by
  intro p e ha hc hk s m args below hf hfit hheap happ hpre
  obtain ⟨b, xs, hP⟩ := lw_pre_spec hpre.2.2 hpre.2.1
  obtain ⟨k, o, h1, h2, h3, hQ⟩ := lw_walk l b xs p e ha hc hk s m args below hf ((Spec.applies_iff_loose hf).mp happ).1 hP trivial
  exact ⟨k, o, h1, h2, h3, hQ⟩
theorem lw_frame {s t : State} {o : Outcome} {args : Array Value} (h : Framed s o t [] 600000 7302250) :
    Framed s o t (fieldLocs frame_1_writes args s ++ arrayLocs frame_1_arrays args s ++ staticLocs frame_1_statics s) 600000 7302250 := h
theorem lw_limb (L : Cond) (hL : ∀ (args : Array Value) (s t : State), L.after args s (.returned (some (.int 1))) t = true) :
    ArmFor flags0 classFile x code maxLocals ret World_1 tables_1 room_1 Calls_1 rest_1 Pre_1
      (fun tb e a s o t => postC L tb e a s o t ∧ Framed s o t (fieldLocs frame_1_writes a s ++ arrayLocs frame_1_arrays a s ++ staticLocs frame_1_statics s) 600000 7302250) := by
  intro l _ _ _ p e ha hc hk s m args below hf hfit hheap happ hpre
  obtain ⟨k, o, h1, h2, h3, rfl, hF⟩ := lw_comes l p e ha hc hk s m args below hf hfit hheap happ hpre
  exact ⟨k, _, h1, h2, h3, hL args s _, lw_frame hF⟩
theorem i_vc : Claimed_1_1 ∧ Claimed_1_2 := ⟨lw_limb limb_1_1 (fun args s t => by simp [limb_1_1, Cond.after, Cond.holds, Cond.value]), lw_limb limb_1_2 (fun args s t => Cond.after_iff.mpr (by
  first | (rw [show limb_1_2 = Cond.eq .result (.int 1) from rfl, Cond.eq_ints (x := 1) (y := 1) rfl rfl]; simp; done) | (simp [limb_1_2, Cond.value, Term.eval]; done)))⟩
