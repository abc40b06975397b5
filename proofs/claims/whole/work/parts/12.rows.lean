/-! ===== rows of my own over the kit's: numbers, branches, cells ===== -/
def bI (b : Bool) : Int32 := if b then 1 else 0
theorem bI_t : bI true = 1 := rfl
theorem bI_f : bI false = 0 := rfl
theorem bI_n (b : Bool) : narrow .boolean (.int (bI b)) = .int (bI b) := by cases b <;> rfl
theorem bI_fit (b : Bool) : fits .boolean (.int (bI b)) = true := by cases b <;> rfl
theorem q_l : ∀ n, n < 32 → ((nI n &&& 31).toBitVec.smod 32).toNat = n := by decide +kernel
theorem q_u : ∀ n, n < 32 → (((nI n).toUInt32 &&& Int32.toUInt32 31).toBitVec % 32).toNat = n := by decide +kernel
theorem m_bv (n : Nat) : (nI n).toBitVec = BitVec.ofNat 32 n := rfl
theorem m_and (a b : Nat) : nI a &&& nI b = nI (a &&& b) := by
  apply Int32.toBitVec_inj.1
  show BitVec.ofNat 32 a &&& BitVec.ofNat 32 b = BitVec.ofNat 32 (a &&& b)
  apply BitVec.eq_of_getLsbD_eq
  intro i hi
  simp [hi]
theorem m_or (a b : Nat) : nI a ||| nI b = nI (a ||| b) := by
  apply Int32.toBitVec_inj.1
  show BitVec.ofNat 32 a ||| BitVec.ofNat 32 b = BitVec.ofNat 32 (a ||| b)
  apply BitVec.eq_of_getLsbD_eq
  intro i hi
  simp [hi]
theorem m_and7 (a : Nat) : nI a &&& nI 7 = nI (a % 8) := by
  rw [m_and, show (7 : Nat) = 2 ^ 3 - 1 from rfl, Nat.and_two_pow_sub_one_eq_mod]
theorem m_and1 (a : Nat) : nI a &&& nI 1 = nI (a % 2) := by
  rw [m_and, show (1 : Nat) = 2 ^ 1 - 1 from rfl, Nat.and_two_pow_sub_one_eq_mod]
theorem m_shl (a : Nat) {k : Nat} (hk : k < 32) : nI a <<< (nI k &&& 31) = nI (a * 2 ^ k) := by
  apply Int32.toBitVec_inj.mp
  apply BitVec.eq_of_toNat_eq
  rw [pk_shl _ _ k (q_l k hk), m_bv, m_bv, BitVec.toNat_ofNat, BitVec.toNat_ofNat, Nat.mod_mul_mod]
theorem m_shr {a k : Nat} (ha : a < 2147483648) (hk : k < 32) : nI a >>> (nI k &&& 31) = nI (a / 2 ^ k) := pk_shrN ha _ k (q_l k hk)
theorem m_ushr {a k : Nat} (ha : a < 2147483648) (hk : k < 32) : ((nI a).toUInt32 >>> ((nI k).toUInt32 &&& Int32.toUInt32 31)).toInt32 = nI (a / 2 ^ k) := pk_ushrN (Nat.lt_trans ha (by decide)) _ k (q_u k hk)
theorem i_nlt {x y : Int32} (h : ¬ x < y) : y ≤ x := by
  rw [Int32.lt_iff_toInt_lt] at h
  rw [Int32.le_iff_toInt_le]
  omega
theorem i_nle {x y : Int32} (h : x < y) : ¬ y ≤ x := by
  rw [Int32.lt_iff_toInt_lt] at h
  rw [Int32.le_iff_toInt_le]
  omega
def nA (g : Nat → Nat) : Nat → Int32 := fun i => nI (g i)
theorem upd_nA (g : Nat → Nat) (k x : Nat) : upd (nA g) k (nI x) = nA (va_up g k x) := by
  funext j
  unfold upd nA va_up
  split <;> rfl
theorem up_lt {g : Nat → Nat} {B k x : Nat} (h : ∀ i, g i < B) (hx : x < B) : ∀ i, va_up g k x i < B := fun i => by
  unfold va_up
  split
  · exact hx
  · exact h i
theorem up_le {g : Nat → Nat} {B k x : Nat} (h : ∀ i, g i ≤ B) (hx : x ≤ B) : ∀ i, va_up g k x i ≤ B := fun i => by
  unfold va_up
  split
  · exact hx
  · exact h i
theorem nat_in {k b : Nat} (hk : k < 2147483648) (hb : b < 2147483648) : (decide (nI 0 ≤ nI k) && decide (nI k ≤ nI b)) = decide (k ≤ b) := by
  rw [decide_eq_true ((nI_leI (by decide) hk).mpr (Nat.zero_le _)), Bool.true_and]
  exact decide_eq_decide.mpr (nI_leI hk hb)
def dgt (w k : Nat) : Nat := w / 2 ^ (3 * k) % 8
theorem dgt_lt (w k : Nat) : dgt w k < 8 := Nat.mod_lt _ (by decide)
section NR
variable {p : Program} {l : Launch} {e : Env} {R : Room} {s : State} {m : MethodId} {args : Array Value} {below : List Frame} {meth : Method} {c : Code} {H : Heap} {locs : List Loc} {cells slots : Nat} {Q : State → Prop}
variable {cc : ByteArray} {pc nL : Nat} {ls : Array Slot} {rest : List Value} {own : String}
theorem t_eq {x y : Int32} (h : x = y) (k : W p l e R s m args below meth c H locs cells slots Q (F0 m pc ls (.int y :: rest))) : W p l e R s m args below meth c H locs cells slots Q (F0 m pc ls (.int x :: rest)) := h ▸ k
theorem b_lt (hx : p.tables.exec = Jvm.exec) (hb : c.code = cc) {x y : Nat} (h1 : x < 2147483648) (h2 : y < 2147483648) {off : Int} {tgt : Nat} (hd : decode cc pc = .ok (.if_icmp .lt off, 3)) (ht : (pc : Int) + off = (tgt : Int)) (kt : x < y → W p l e R s m args below meth c H locs cells slots Q (F0 m tgt ls rest)) (kf : y ≤ x → W p l e R s m args below meth c H locs cells slots Q (F0 m (pc + 3) ls rest)) : W p l e R s m args below meth c H locs cells slots Q (F0 m pc ls (.int (nI y) :: .int (nI x) :: rest)) :=
  lv_icmp_lt hx hb hd ht (fun h => kt ((nI_ltI h1 h2).mp h)) (fun h => kf (Nat.le_of_not_lt fun q => h ((nI_ltI h1 h2).mpr q)))
theorem b_ge (hx : p.tables.exec = Jvm.exec) (hb : c.code = cc) {x y : Nat} (h1 : x < 2147483648) (h2 : y < 2147483648) {off : Int} {tgt : Nat} (hd : decode cc pc = .ok (.if_icmp .ge off, 3)) (ht : (pc : Int) + off = (tgt : Int)) (kt : y ≤ x → W p l e R s m args below meth c H locs cells slots Q (F0 m tgt ls rest)) (kf : x < y → W p l e R s m args below meth c H locs cells slots Q (F0 m (pc + 3) ls rest)) : W p l e R s m args below meth c H locs cells slots Q (F0 m pc ls (.int (nI y) :: .int (nI x) :: rest)) :=
  lv_icmp_ge hx hb hd ht (fun h => kt ((nI_leI h2 h1).mp h)) (fun h => kf (Nat.lt_of_not_le fun q => h ((nI_leI h2 h1).mpr q)))
theorem b_gt (hx : p.tables.exec = Jvm.exec) (hb : c.code = cc) {x y : Nat} (h1 : x < 2147483648) (h2 : y < 2147483648) {off : Int} {tgt : Nat} (hd : decode cc pc = .ok (.if_icmp .gt off, 3)) (ht : (pc : Int) + off = (tgt : Int)) (kt : y < x → W p l e R s m args below meth c H locs cells slots Q (F0 m tgt ls rest)) (kf : x ≤ y → W p l e R s m args below meth c H locs cells slots Q (F0 m (pc + 3) ls rest)) : W p l e R s m args below meth c H locs cells slots Q (F0 m pc ls (.int (nI y) :: .int (nI x) :: rest)) :=
  lv_icmp_gt hx hb hd ht (fun h => kt ((nI_ltI h2 h1).mp h)) (fun h => kf (Nat.le_of_not_lt fun q => h ((nI_ltI h2 h1).mpr q)))
theorem b_le (hx : p.tables.exec = Jvm.exec) (hb : c.code = cc) {x y : Nat} (h1 : x < 2147483648) (h2 : y < 2147483648) {off : Int} {tgt : Nat} (hd : decode cc pc = .ok (.if_icmp .le off, 3)) (ht : (pc : Int) + off = (tgt : Int)) (kt : x ≤ y → W p l e R s m args below meth c H locs cells slots Q (F0 m tgt ls rest)) (kf : y < x → W p l e R s m args below meth c H locs cells slots Q (F0 m (pc + 3) ls rest)) : W p l e R s m args below meth c H locs cells slots Q (F0 m pc ls (.int (nI y) :: .int (nI x) :: rest)) :=
  lv_icmp_le hx hb hd ht (fun h => kt ((nI_leI h1 h2).mp h)) (fun h => kf (Nat.lt_of_not_le fun q => h ((nI_leI h1 h2).mpr q)))
theorem b_eq (hx : p.tables.exec = Jvm.exec) (hb : c.code = cc) {x y : Nat} (h1 : x < 2147483648) (h2 : y < 2147483648) {off : Int} {tgt : Nat} (hd : decode cc pc = .ok (.if_icmp .eq off, 3)) (ht : (pc : Int) + off = (tgt : Int)) (kt : x = y → W p l e R s m args below meth c H locs cells slots Q (F0 m tgt ls rest)) (kf : ¬ x = y → W p l e R s m args below meth c H locs cells slots Q (F0 m (pc + 3) ls rest)) : W p l e R s m args below meth c H locs cells slots Q (F0 m pc ls (.int (nI y) :: .int (nI x) :: rest)) :=
  lv_icmp_eq hx hb hd ht (fun h => kt ((nI_eq h1 h2).mp h)) (fun h => kf fun q => h ((nI_eq h1 h2).mpr q))
theorem b_ne (hx : p.tables.exec = Jvm.exec) (hb : c.code = cc) {x y : Nat} (h1 : x < 2147483648) (h2 : y < 2147483648) {off : Int} {tgt : Nat} (hd : decode cc pc = .ok (.if_icmp .ne off, 3)) (ht : (pc : Int) + off = (tgt : Int)) (kt : ¬ x = y → W p l e R s m args below meth c H locs cells slots Q (F0 m tgt ls rest)) (kf : x = y → W p l e R s m args below meth c H locs cells slots Q (F0 m (pc + 3) ls rest)) : W p l e R s m args below meth c H locs cells slots Q (F0 m pc ls (.int (nI y) :: .int (nI x) :: rest)) :=
  lv_icmp_ne hx hb hd ht (fun h => kt fun q => h ((nI_eq h1 h2).mpr q)) (fun h => kf ((nI_eq h1 h2).mp h))
theorem z_eq (hx : p.tables.exec = Jvm.exec) (hb : c.code = cc) {x : Nat} (h1 : x < 2147483648) {off : Int} {tgt : Nat} (hd : decode cc pc = .ok (.ifCond .eq off, 3)) (ht : (pc : Int) + off = (tgt : Int)) (kt : x = 0 → W p l e R s m args below meth c H locs cells slots Q (F0 m tgt ls rest)) (kf : ¬ x = 0 → W p l e R s m args below meth c H locs cells slots Q (F0 m (pc + 3) ls rest)) : W p l e R s m args below meth c H locs cells slots Q (F0 m pc ls (.int (nI x) :: rest)) :=
  lv_if_eq hx hb hd ht (fun h => kt ((nI_eq h1 (by decide)).mp h)) (fun h => kf fun q => h ((nI_eq h1 (by decide)).mpr q))
theorem z_ne (hx : p.tables.exec = Jvm.exec) (hb : c.code = cc) {x : Nat} (h1 : x < 2147483648) {off : Int} {tgt : Nat} (hd : decode cc pc = .ok (.ifCond .ne off, 3)) (ht : (pc : Int) + off = (tgt : Int)) (kt : ¬ x = 0 → W p l e R s m args below meth c H locs cells slots Q (F0 m tgt ls rest)) (kf : x = 0 → W p l e R s m args below meth c H locs cells slots Q (F0 m (pc + 3) ls rest)) : W p l e R s m args below meth c H locs cells slots Q (F0 m pc ls (.int (nI x) :: rest)) :=
  lv_if_ne hx hb hd ht (fun h => kt fun q => h ((nI_eq h1 (by decide)).mpr q)) (fun h => kf ((nI_eq h1 (by decide)).mp h))
theorem z_le (hx : p.tables.exec = Jvm.exec) (hb : c.code = cc) {x : Nat} (h1 : x < 2147483648) {off : Int} {tgt : Nat} (hd : decode cc pc = .ok (.ifCond .le off, 3)) (ht : (pc : Int) + off = (tgt : Int)) (kt : x = 0 → W p l e R s m args below meth c H locs cells slots Q (F0 m tgt ls rest)) (kf : 0 < x → W p l e R s m args below meth c H locs cells slots Q (F0 m (pc + 3) ls rest)) : W p l e R s m args below meth c H locs cells slots Q (F0 m pc ls (.int (nI x) :: rest)) :=
  lv_if_le hx hb hd ht (fun h => kt (Nat.le_zero.mp ((nI_leI h1 (by decide)).mp h))) (fun h => kf (Nat.pos_of_ne_zero fun q => h (by rw [q]; decide)))
theorem z_gt (hx : p.tables.exec = Jvm.exec) (hb : c.code = cc) {x : Nat} (h1 : x < 2147483648) {off : Int} {tgt : Nat} (hd : decode cc pc = .ok (.ifCond .gt off, 3)) (ht : (pc : Int) + off = (tgt : Int)) (kt : 0 < x → W p l e R s m args below meth c H locs cells slots Q (F0 m tgt ls rest)) (kf : x = 0 → W p l e R s m args below meth c H locs cells slots Q (F0 m (pc + 3) ls rest)) : W p l e R s m args below meth c H locs cells slots Q (F0 m pc ls (.int (nI x) :: rest)) :=
  lv_if_gt hx hb hd ht (fun h => kt ((nI_ltI (by decide) h1).mp h)) (fun h => kf (Nat.eq_zero_of_not_pos fun q => h ((nI_ltI (by decide) h1).mpr q)))
theorem z_lt (hx : p.tables.exec = Jvm.exec) (hb : c.code = cc) {x : Nat} (h1 : x < 2147483648) {off : Int} (hd : decode cc pc = .ok (.ifCond .lt off, 3)) {tgt : Nat} (ht : (pc : Int) + off = (tgt : Int)) (kf : W p l e R s m args below meth c H locs cells slots Q (F0 m (pc + 3) ls rest)) : W p l e R s m args below meth c H locs cells slots Q (F0 m pc ls (.int (nI x) :: rest)) :=
  lv_if_lt (tgt := tgt) hx hb hd ht (fun h => absurd h (nI_pos h1)) (fun _ => kf)
theorem z_ge (hx : p.tables.exec = Jvm.exec) (hb : c.code = cc) {x : Nat} (h1 : x < 2147483648) {off : Int} {tgt : Nat} (hd : decode cc pc = .ok (.ifCond .ge off, 3)) (ht : (pc : Int) + off = (tgt : Int)) (kt : W p l e R s m args below meth c H locs cells slots Q (F0 m tgt ls rest)) : W p l e R s m args below meth c H locs cells slots Q (F0 m pc ls (.int (nI x) :: rest)) :=
  lv_if_ge hx hb hd ht (fun _ => kt) (fun h => absurd (nI_pos' h1) h)
theorem y_eq (hx : p.tables.exec = Jvm.exec) (hb : c.code = cc) {x : Bool} {off : Int} {tgt : Nat} (hd : decode cc pc = .ok (.ifCond .eq off, 3)) (ht : (pc : Int) + off = (tgt : Int)) (kt : x = false → W p l e R s m args below meth c H locs cells slots Q (F0 m tgt ls rest)) (kf : x = true → W p l e R s m args below meth c H locs cells slots Q (F0 m (pc + 3) ls rest)) : W p l e R s m args below meth c H locs cells slots Q (F0 m pc ls (.int (bI x) :: rest)) :=
  lv_if_eq hx hb hd ht (fun h => kt (by cases x <;> first | rfl | (exact absurd h (by decide)))) (fun h => kf (by cases x <;> first | rfl | (exact absurd rfl h)))
theorem y_ne (hx : p.tables.exec = Jvm.exec) (hb : c.code = cc) {x : Bool} {off : Int} {tgt : Nat} (hd : decode cc pc = .ok (.ifCond .ne off, 3)) (ht : (pc : Int) + off = (tgt : Int)) (kt : x = true → W p l e R s m args below meth c H locs cells slots Q (F0 m tgt ls rest)) (kf : x = false → W p l e R s m args below meth c H locs cells slots Q (F0 m (pc + 3) ls rest)) : W p l e R s m args below meth c H locs cells slots Q (F0 m pc ls (.int (bI x) :: rest)) :=
  lv_if_ne hx hb hd ht (fun h => kt (by cases x <;> first | rfl | (exact absurd rfl h))) (fun h => kf (by cases x <;> first | rfl | (exact absurd h (by decide))))
variable {D : va_G} {cI : ClassId} {tys : List (ClassId × FieldType)} {ws : va_W} {A : Nat → Prop} {a : Nat}
theorem r_get (C0 : CallFix p m c cc nL s args gt own) (hK : KK D cI tys s) (hP : va_P D cls ws H) {C ref : String} {T : u_T} {N ci index : Nat} (q0 : Nat) {fs : List Value} (he : ws[q0]? = some (a, .inr (ci, fs))) (hc : cls[ci]? = some (C, T, N)) (hin : ∀ w ∈ u_ws C T N, w ∈ gt) (k : Nat) (hk : k < N) (hl : Cond.fieldLink own index ref (T k).2.1 (T k).2.2.1 ∈ gt) (hsame : ∀ x, s.fieldFound? (T k).1 (T k).2.1 (T k).2.2.1 = some x → s.fieldFound? ref (T k).2.1 (T k).2.2.1 = some x) {v : Value} (hv : fs[k]? = some v) (hd : decode cc pc = .ok (.getfield index, 3))
    (kk : W p l e R s m args below meth c H locs cells slots Q (F0 m (pc + 3) ls (v :: rest))) : W p l e R s m args below meth c H locs cells slots Q (F0 m pc ls (.ref a :: rest)) :=
  va_get C0.1 C0.2.1 C0.2.2.2.2 hin C0.2.2.2.1 hK.1 hP q0 he hc k hk (C0.2.2.2.2 _ hl) hsame hv hd kk
theorem r_put (C0 : CallFix p m c cc nL s args gt own) (hK : KK D cI tys s) (hP : va_P D cls ws H) (hD : va_D A ws) (hS : va_S A s.heap H locs) {C ref : String} {T : u_T} {N ci index : Nat} (q0 : Nat) {fs : List Value} (he : ws[q0]? = some (a, .inr (ci, fs))) (hc : cls[ci]? = some (C, T, N)) (hin : ∀ w ∈ u_ws C T N, w ∈ gt) (ty0 : Nat → FieldType) (hty : ∀ k, k < N → parseFieldDescriptor (T k).2.2.1 = some (ty0 k)) (hnm : ∀ a, a < N → ∀ b, b < N → a ≠ b → (T a).2.1 ≠ (T b).2.1) (k : Nat) (hk : k < N) (hl : Cond.fieldLink own index ref (T k).2.1 (T k).2.2.1 ∈ gt) (hsame : ∀ x, s.fieldFound? (T k).1 (T k).2.1 (T k).2.2.1 = some x → s.fieldFound? ref (T k).2.1 (T k).2.2.1 = some x) (hfin : (T k).2.2.2 = false) {v : Value} (hn : narrow (ty0 k) v = v) (hfit : fits (ty0 k) v = true) (hlen : k < fs.length) (hd : decode cc pc = .ok (.putfield index, 3))
    (kk : ∀ (H1 : Heap) (locs1 : List Loc), va_P D cls (ws.set q0 (a, .inr (ci, fs.set k v))) H1 → va_D A (ws.set q0 (a, .inr (ci, fs.set k v))) → va_S A s.heap H1 locs1 → W p l e R s m args below meth c H1 locs1 cells slots Q (F0 m (pc + 3) ls rest)) : W p l e R s m args below meth c H locs cells slots Q (F0 m pc ls (v :: .ref a :: rest)) :=
  va_put C0.1 C0.2.1 C0.2.2.2.2 hin ty0 hty hnm C0.2.2.2.1 hK.1 hP hD hS q0 he hc k hk (C0.2.2.2.2 _ hl) hsame hfin (hty k hk) hn hfit hlen hd kk
theorem r_putF (C0 : CallFix p m c cc nL s args gt own) (hK : KK D cI tys s) (hP : va_P D cls ws H) (hD : va_D A ws) (hS : va_S A s.heap H locs) {C ref : String} {T : u_T} {N ci index : Nat} (q0 : Nat) {fs : List Value} (he : ws[q0]? = some (a, .inr (ci, fs))) (hc : cls[ci]? = some (C, T, N)) (hin : ∀ w ∈ u_ws C T N, w ∈ gt) (ty0 : Nat → FieldType) (hty : ∀ k, k < N → parseFieldDescriptor (T k).2.2.1 = some (ty0 k)) (hnm : ∀ a, a < N → ∀ b, b < N → a ≠ b → (T a).2.1 ≠ (T b).2.1) (k : Nat) (hk : k < N) (hl : Cond.fieldLink own index ref (T k).2.1 (T k).2.2.1 ∈ gt) (hsame : ∀ x, s.fieldFound? (T k).1 (T k).2.1 (T k).2.2.1 = some x → s.fieldFound? ref (T k).2.1 (T k).2.2.1 = some x) (hfin : (T k).2.2.2 = true) (hini : meth.name = "<init>") (hdecl : (T k).1 = own) {v : Value} (hn : narrow (ty0 k) v = v) (hfit : fits (ty0 k) v = true) (hlen : k < fs.length) (hd : decode cc pc = .ok (.putfield index, 3))
    (kk : ∀ (H1 : Heap) (locs1 : List Loc), va_P D cls (ws.set q0 (a, .inr (ci, fs.set k v))) H1 → va_D A (ws.set q0 (a, .inr (ci, fs.set k v))) → va_S A s.heap H1 locs1 → W p l e R s m args below meth c H1 locs1 cells slots Q (F0 m (pc + 3) ls rest)) : W p l e R s m args below meth c H locs cells slots Q (F0 m pc ls (v :: .ref a :: rest)) :=
  va_putF C0.1 C0.2.1 C0.2.2.2.2 hin ty0 hty hnm C0.2.2.2.1 hK.1 hP hD hS q0 he hc k hk (C0.2.2.2.2 _ hl) hsame hfin hini hdecl (hty k hk) hn hfit hlen hd kk
theorem r_ald (C0 : CallFix p m c cc nL s args gt own) (hK : KK D cI tys s) (hP : va_P D cls ws H) (q0 : Nat) {n i : Nat} {f : Nat → Int32} (ha : ws[q0]? = some (a, .inl (cI, n, .inl f))) (hi : i < n) (hn : n < 2147483648) (hd : decode cc pc = .ok (.iaload, 1))
    (kk : W p l e R s m args below meth c H locs cells slots Q (F0 m (pc + 1) ls (.int (f i) :: rest))) : W p l e R s m args below meth c H locs cells slots Q (F0 m pc ls (.int (nI i) :: .ref a :: rest)) :=
  va_iald C0.1 C0.2.1 hK.1 hP q0 0 ha rfl (vp_in_nI hi hn) hd (by rw [nI_clamp (Nat.lt_trans hi hn)]; exact kk)
theorem r_ast (C0 : CallFix p m c cc nL s args gt own) (hK : KK D cI tys s) (hP : va_P D cls ws H) (hD : va_D A ws) (hS : va_S A s.heap H locs) (q0 : Nat) {n i : Nat} {x : Int32} {f : Nat → Int32} (ha : ws[q0]? = some (a, .inl (cI, n, .inl f))) (hi : i < n) (hn : n < 2147483648) (hd : decode cc pc = .ok (.iastore, 1))
    (kk : ∀ (H1 : Heap) (locs1 : List Loc), va_P D cls (ws.set q0 (a, .inl (cI, n, .inl (upd f i x)))) H1 → va_D A (ws.set q0 (a, .inl (cI, n, .inl (upd f i x)))) → va_S A s.heap H1 locs1 → W p l e R s m args below meth c H1 locs1 cells slots Q (F0 m (pc + 1) ls rest)) : W p l e R s m args below meth c H locs cells slots Q (F0 m pc ls (.int x :: .int (nI i) :: .ref a :: rest)) :=
  va_iast C0.1 C0.2.1 hK.1 hP hD hS q0 0 ha rfl (vp_in_nI hi hn) hd (fun H1 l1 h1 h2 h3 => by rw [nI_clamp (Nat.lt_trans hi hn)] at h1 h2; exact kk H1 l1 h1 h2 h3)
theorem r_astN (C0 : CallFix p m c cc nL s args gt own) (hK : KK D cI tys s) (hP : va_P D cls ws H) (hD : va_D A ws) (hS : va_S A s.heap H locs) (q0 : Nat) {n i x : Nat} {g : Nat → Nat} (ha : ws[q0]? = some (a, .inl (cI, n, .inl (nA g)))) (hi : i < n) (hn : n < 2147483648) (hd : decode cc pc = .ok (.iastore, 1))
    (kk : ∀ (H1 : Heap) (locs1 : List Loc), va_P D cls (ws.set q0 (a, .inl (cI, n, .inl (nA (va_up g i x))))) H1 → va_D A (ws.set q0 (a, .inl (cI, n, .inl (nA (va_up g i x))))) → va_S A s.heap H1 locs1 → W p l e R s m args below meth c H1 locs1 cells slots Q (F0 m (pc + 1) ls rest)) : W p l e R s m args below meth c H locs cells slots Q (F0 m pc ls (.int (nI x) :: .int (nI i) :: .ref a :: rest)) :=
  r_ast C0 hK hP hD hS q0 ha hi hn hd (fun H1 l1 h1 h2 h3 => by rw [upd_nA] at h1 h2; exact kk H1 l1 h1 h2 h3)
theorem r_newa (C0 : CallFix p m c cc nL s args gt own) (hK : KK D cI tys s) (hP : va_P D cls ws H) (hD : va_D A ws) (hS : va_S A s.heap H locs) (hA : ∀ q, s.heap.size ≤ q → A q) {N : Nat} (hb4 : N * 4 ≤ 536870912) (hc : cells + 1 ≤ R.cells) (hs : slots + N ≤ R.slots) (hd : decode cc pc = .ok (.newarray .int, 2))
    (kk : ∀ (q : Nat) (H1 : Heap), va_P D cls (ws ++ [(q, .inl (cI, N, .inl (nA (fun _ => 0))))]) H1 → va_D A (ws ++ [(q, .inl (cI, N, .inl (nA (fun _ => 0))))]) → va_S A s.heap H1 locs → W p l e R s m args below meth c H1 locs (cells + 1) (slots + N) Q (F0 m (pc + 2) ls (.ref q :: rest))) : W p l e R s m args below meth c H locs cells slots Q (F0 m pc ls (.int (nI N) :: rest)) := by
  refine va_newaK (atype := .int) C0.1 C0.2.1 (C0.2.2.2.2 _ wt_44) rfl hd rfl (nI_pos (by omega)) (nI_clamp (by omega)) (by simpa [newarray.typeOf, componentBytes] using hb4) hc hs rfl fun H1 cA e1 z1 o1 hAr hNm => ?_
  have hcA : cA = cI := Option.some.inj ((show s.vm.findClass "[I" = some cA from hNm).symm.trans hK.2.2)
  subst hcA
  have hk : ∀ (k : Nat) (x : Nat × va_E), ws[k]? = some x → H1[x.1]? = H[x.1]? := fun k x hx => o1 x.1 ((hP k x hx).lt)
  refine kk H.size H1 ((hP.kept hk).app (fun k x hx => ?_)) (hD.push hP rfl (hA _ hS.1)) ⟨Nat.le_trans hS.1 (by omega), fun x h1 h2 => (o1 x (Nat.lt_of_lt_of_le h1 hS.1)).trans (hS.2.1 x h1 h2), hS.2.2⟩
  have hz : k < 1 := (List.getElem?_eq_some_iff.mp hx).1
  rw [show k = 0 by omega] at hx
  cases hx
  exact e1
theorem r_new (C0 : CallFix p m c cc nL s args gt own) (hK : KK D cI tys s) (hP : va_P D cls ws H) (hD : va_D A ws) (hS : va_S A s.heap H locs) (hA : ∀ q, s.heap.size ≤ q → A q) {C : String} {T : u_T} {N ci index : Nat} (hc : cls[ci]? = some (C, T, N)) (hin : ∀ w ∈ u_ws C T N, w ∈ gt) (ty0 : Nat → FieldType) (hty : ∀ k, k < N → parseFieldDescriptor (T k).2.2.1 = some (ty0 k)) (hcl : Cond.classLink own index C ∈ gt) (hinst : Cond.instantiable C N ∈ gt) (hini : Cond.initialized C ∈ gt) (fs : List Value) (hfs : ∀ j, j < N → defaultValue (ty0 j) = vp_V fs j) (h1 : cells + 1 ≤ R.cells) (h2 : slots + N ≤ R.slots) (hd : decode cc pc = .ok (.new index, 3))
    (kk : ∀ (q : Nat) (H1 : Heap), va_P D cls (ws ++ [(q, .inr (ci, fs))]) H1 → va_D A (ws ++ [(q, .inr (ci, fs))]) → va_S A s.heap H1 locs → W p l e R s m args below meth c H1 locs (cells + 1) (slots + N) Q (F0 m (pc + 3) ls (.ref q :: rest))) : W p l e R s m args below meth c H locs cells slots Q (F0 m pc ls rest) :=
  va_new C0.1 C0.2.1 C0.2.2.2.2 hin ty0 hty C0.2.2.2.1 (C0.2.2.2.2 _ hcl) (C0.2.2.2.2 _ hinst) (C0.2.2.2.2 _ hini) hK.1 hP hD hS hA hc hfs h1 h2 hd kk
theorem r_obj (C0 : CallFix p m c cc nL s args gt own) {idx : Nat} (hl : Cond.methodLink own idx Lib.objectInit ∈ gt) (hls : ls.size = nL) (hf : 1 ≤ R.frames) (hlo : (rest.map fun v => v.category).sum + 12 ≤ R.locals) (hd : decode cc pc = .ok (.invokespecial idx, 3)) (kk : W p l e R s m args below meth c H locs cells slots Q (F0 m (pc + 3) ls rest)) : W p l e R s m args below meth c H locs cells slots Q (F0 m pc ls (.ref a :: rest)) :=
  W.objInit C0.1 C0.2.1 C0.2.2.2.1 (C0.2.2.2.2 _ hl) (C0.2.2.2.2 _ wt_23) (C0.2.2.2.2 _ wt_24) rfl (by rw [C0.2.2.1]; exact hls) rfl hd hf (by show 2 * 0 + _ + 12 ≤ _; omega) kk
theorem arr_cong {q0 n : Nat} {f f' : Nat → Int32} (ha : ws[q0]? = some (a, .inl (cI, n, .inl f))) (hf : ∀ i, i < n → f i = f' i) (hP : va_P D cls ws H) (hD : va_D A ws) : va_P D cls (ws.set q0 (a, .inl (cI, n, .inl f'))) H ∧ va_D A (ws.set q0 (a, .inl (cI, n, .inl f'))) := by
  refine ⟨hP.set hD ha ?_ (fun _ _ => rfl), hD.set ha⟩
  have h := hP q0 _ ha
  have e : arrV cI n (fun j => Value.int (f j)) = arrV cI n (fun j => Value.int (f' j)) := by
    unfold arrV
    congr 2
    funext j
    exact congrArg Value.int (hf j.val j.isLt)
  show H[a]? = some (vp_cell cI (n, .inl f'))
  rw [vp_cell_i, ← e]
  exact h
theorem r_copy (C0 : CallFix p m c cc nL s args gt own) (hK : KK D cI tys s) (hP : va_P D cls ws H) (hD : va_D A ws) (hS : va_S A s.heap H locs) {index : Nat} (hl : Cond.methodLink own index arraycopyName ∈ gt) (hls : ls.size = nL) (q0 q1 : Nat) {a0 n : Nat} {f g : Nat → Int32} (ha0 : ws[q0]? = some (a0, .inl (cI, n, .inl f))) (ha1 : ws[q1]? = some (a, .inl (cI, n, .inl g))) (hn : n < 2147483648) (hq : q1 < ws.length) (hfr : 1 ≤ R.frames) (hlo : (rest.map fun v => v.category).sum + (nativeFrameWords "java/lang/System" "arraycopy" 5 + 11) ≤ R.locals) (hd : decode cc pc = .ok (.invokestatic index, 3))
    (kk : ∀ (H1 : Heap) (locs1 : List Loc), va_P D cls (ws.set q1 (a, .inl (cI, n, .inl f))) H1 → va_D A (ws.set q1 (a, .inl (cI, n, .inl f))) → va_S A s.heap H1 locs1 → W p l e R s m args below meth c H1 locs1 cells slots Q (F0 m (pc + 3) ls rest)) : W p l e R s m args below meth c H locs cells slots Q (F0 m pc ls (.int (nI n) :: .int (nI 0) :: .ref a :: .int (nI 0) :: .ref a0 :: rest)) :=
  va_copyi C0.1 C0.2.1 (C0.2.2.1.trans hls.symm) C0.2.2.2.1 (C0.2.2.2.2 _ hl) (C0.2.2.2.2 _ wt_546) (C0.2.2.2.2 _ wt_545) (C0.2.2.2.2 _ wt_16) hK.1 hP hD hS q0 q1 0 0 ha0 ha1 rfl rfl rfl (by decide) (by decide) (nI_pos hn) (by rw [nI_clamp hn]; show 0 + n ≤ n; omega) (by rw [nI_clamp hn]; show 0 + n ≤ n; omega) (fun _ _ => rfl) hfr hlo hd (fun H1 l1 h1 h2 h3 => by
    rw [nI_clamp hn] at h1 h2
    have hg : (ws.set q1 (a, .inl (cI, n, .inl (va_cpy f g (nI 0).toNatClampNeg (nI 0).toNatClampNeg n))))[q1]? = some (a, .inl (cI, n, .inl (va_cpy f g 0 0 n))) := by simp [hq]; rfl
    obtain ⟨g1, g2⟩ := arr_cong (f' := f) hg (fun i hi => pk_cpy_in (Nat.zero_le _) (by omega) |>.trans (by congr 1; omega)) h1 h2
    rw [List.set_set] at g1 g2
    exact kk H1 l1 g1 g2 h3)
end NR
section CALL2
variable {p : Program} {l : Launch} {e : Env} {R : Room} {s : State} {m : MethodId} {args : Array Value} {below : List Frame} {meth : Method} {c : Code} {H : Heap} {locs : List Loc} {cells slots : Nat}
variable {y : MethodName} {bytes cc : ByteArray} {maxL nL n index : Nat} {rm : Room} {own : String} {b : Addr} {As rest st0 : List Value} {pc : Nat} {ls : Array Slot} {D : va_G} {cI : ClassId} {tys' : List (ClassId × FieldType)} {wc : va_W}
theorem run_I {Qc : Array Value → State → Outcome → State → Prop} {fr : Addr → Prop} (C0 : CallFix p m c cc nL s args gt own) (hK : KK D cI tys' s) (hM : Met l y (.code y bytes maxL none :: gt) rm (pre D cI tys' H.size wc (.ref b :: As)) Qc rm.cells rm.slots fr) (hy1 : y.name = "<init>") (hco : Cond.code y bytes maxL none ∈ gt) (hini : Cond.initialized y.cls ∈ gt) (hl : Cond.methodLink own index y ∈ gt) (hin : Cond.instanceMethod y ∈ gt) (hd : okY y n) (hR : roomY rm R maxL)
    (hn : As.length = n) (hls : ls.size = nL) (hstk : st0 = As.reverse ++ .ref b :: rest) (hW : (rest.map fun v => v.category).sum ≤ 8) (hdg : decode cc pc = .ok (.invokespecial index, 3)) (hf : cells + rm.cells ≤ R.cells ∧ slots + rm.slots ≤ R.slots) :
    va_P D cls wc H → va_D (fun _ => True) wc → va_Run p l e R s m args below meth c H locs cells slots rm.cells rm.slots (F0 m pc ls st0) rest (Qc (Value.ref b :: As).toArray) fr := fun hP hD =>
  va_runI C0 hM ⟨cb_of C0 hco hini hl hd hR, hy1, C0.2.2.2.2 _ hin⟩ ⟨pre_blind, fun U hU hW => ⟨rfl, by rw [hU], by rw [hU]; exact hP, hD, hK.warm hW⟩⟩ rfl hn hls hstk (lv_room hW) hdg hf
theorem run_IN {Qc : Array Value → State → Outcome → State → Prop} {fr : Addr → Prop} {host : String} (C0 : CallFix p m c cc nL s args gt own) (hK : KK D cI tys' s) (hM : Met l y (.code y bytes maxL none :: gt) rm (pre D cI tys' H.size wc (.ref b :: As)) Qc rm.cells rm.slots fr) (hy1 : y.name = "<init>") (hco : Cond.code y bytes maxL none ∈ gt) (hini : Cond.initialized y.cls ∈ gt) (hl : Cond.methodLinkNest own index y host ∈ nwl) (hin : Cond.instanceMethod y ∈ gt) (hd : okY y n) (hR : roomY rm R maxL)
    (hn : As.length = n) (hls : ls.size = nL) (hstk : st0 = As.reverse ++ .ref b :: rest) (hW : (rest.map fun v => v.category).sum ≤ 8) (hdg : decode cc pc = .ok (.invokespecial index, 3)) (hf : cells + rm.cells ≤ R.cells ∧ slots + rm.slots ≤ R.slots) :
    va_P D cls wc H → va_D (fun _ => True) wc → va_Run p l e R s m args below meth c H locs cells slots rm.cells rm.slots (F0 m pc ls st0) rest (Qc (Value.ref b :: As).toArray) fr := fun hP hD =>
  va_runIN C0 hM ⟨va_cnB n C0.2.2.2.2 (gg hco) rfl rfl rfl (hK.2.1.1 _ hl) (C0.2.2.2.2 _ hini) hd hR, hy1, C0.2.2.2.2 _ hin⟩ ⟨pre_blind, fun U hU hW => ⟨rfl, by rw [hU], by rw [hU]; exact hP, hD, hK.warm hW⟩⟩ rfl hn hls hstk (lv_room hW) hdg hf
end CALL2
