def mR (nm mk : Nat) (M : Nat → MD) (kd : Nat → Nat) (kr kn : Nat → Int32) : Prop := (∀ j, kd j < 64) ∧ ∀ i, i < mk → dR nm (M i).2.2.2.2.1 (fun x => kd (6 * i + x)) (M i).2.2.2.2.2.1 (fun q => kr (36 * i + q)) (M i).2.2.2.2.2.2 (fun q => kn (36 * i + q))
theorem mark_R {nm mk : Nat} {dm em kd : Nat → Nat} {rs ss rn tn kr kn : Nat → Int32} {M : Nat → MD} {a b c d' : Nat} (h6 : nm ≤ 6) (d : dR nm dm em rs ss rn tn) (h : mR nm mk M kd kr kn) : mR nm (mk + 1) (va_up M mk (a, b, c, d', dm, rs, rn)) (filN kd (6 * mk) em nm) (fil kr (36 * mk) ss (6 * nm)) (fil kn (36 * mk) tn (6 * nm)) := by
  obtain ⟨d1, d2, d3, d4, d5, d6⟩ := d
  refine ⟨fun j => ?_, fun i hi => ?_⟩
  · unfold filN
    split
    · exact d4 _
    · exact h.1 j
  · have hb : ∀ j, filN kd (6 * mk) em nm j < 64 := fun j => by
      unfold filN
      split
      · exact d4 _
      · exact h.1 j
    by_cases e : i = mk
    · subst e
      rw [va_up_self]
      refine ⟨fun x hx => ?_, d2, d3, fun j => hb _, fun q hq => ?_, fun q hq => ?_⟩
      · show dm x = filN kd (6 * i) em nm (6 * i + x)
        unfold filN
        rw [if_pos (by omega), Nat.add_sub_cancel_left]; exact d1 x hx
      · show rs q = fil kr (36 * i) ss (6 * nm) (36 * i + q)
        unfold fil
        rw [if_pos (by omega), Nat.add_sub_cancel_left]; exact d5 q hq
      · show rn q = fil kn (36 * i) tn (6 * nm) (36 * i + q)
        unfold fil
        rw [if_pos (by omega), Nat.add_sub_cancel_left]; exact d6 q hq
    · rw [va_up_ne _ _ e]
      obtain ⟨g1, g2, g3, g4, g5, g6⟩ := h.2 i (by omega)
      refine ⟨fun x hx => ?_, g2, g3, fun j => hb _, fun q hq => ?_, fun q hq => ?_⟩
      · show _ = filN kd (6 * mk) em nm (6 * i + x)
        unfold filN
        rw [if_neg (by omega)]; exact g1 x hx
      · show _ = fil kr (36 * mk) ss (6 * nm) (36 * i + q)
        unfold fil
        rw [if_neg (by omega)]; exact g5 q hq
      · show _ = fil kn (36 * mk) tn (6 * nm) (36 * i + q)
        unfold fil
        rw [if_neg (by omega)]; exact g6 q hq
theorem back_R {nm mk : Nat} {em kd : Nat → Nat} {ss tn kr kn : Nat → Int32} {M : Nat → MD} (hk : 0 < mk) (d4 : ∀ j, em j < 64) (h : mR nm mk M kd kr kn) : dR nm (M (mk - 1)).2.2.2.2.1 (filN em 0 (fun i => kd (6 * (mk - 1) + i)) nm) (M (mk - 1)).2.2.2.2.2.1 (fil ss 0 (fun i => kr (36 * (mk - 1) + i)) (6 * nm)) (M (mk - 1)).2.2.2.2.2.2 (fil tn 0 (fun i => kn (36 * (mk - 1) + i)) (6 * nm)) := by
  obtain ⟨g1, g2, g3, g4, g5, g6⟩ := h.2 (mk - 1) (by omega)
  refine ⟨fun x hx => ?_, g2, g3, fun j => ?_, fun q hq => ?_, fun q hq => ?_⟩
  · unfold filN
    rw [if_pos (by omega), Nat.sub_zero]; exact g1 x hx
  · unfold filN
    split
    · exact h.1 _
    · exact d4 j
  · unfold fil
    rw [if_pos (by omega), Nat.sub_zero]; exact g5 q hq
  · unfold fil
    rw [if_pos (by omega), Nat.sub_zero]; exact g6 q hq
theorem mR_le {nm mk m2 : Nat} {M : Nat → MD} {kd : Nat → Nat} {kr kn : Nat → Int32} (h : mR nm mk M kd kr kn) (e : m2 ≤ mk) : mR nm m2 M kd kr kn := ⟨h.1, fun i hi => h.2 i (by omega)⟩
theorem mR_0 {nm : Nat} {M : Nat → MD} {kd : Nat → Nat} {kr kn : Nat → Int32} (h : ∀ j, kd j < 64) : mR nm 0 M kd kr kn := ⟨h, fun _ h => absurd h (Nat.not_lt_zero _)⟩
theorem ixN_b {x : Int32} {m j : Nat} (h : ixN x m = some j) : j < m := by
  unfold ixN at h
  split at h
  · next q =>
    cases h
    omega
  · cases h
theorem row_ok {nm q w : Nat} {x y : Int32} (h : rowO nm x y = some (q, w)) : (1 ≤ q ∧ q ≤ 6) ∧ w < 262144 ∧ (∀ j, j < q → dgt w j < nm) ∧ ∀ i, i < q → ∀ j, j < q → ¬ i = j → ¬ dgt w i = dgt w j := by
  have hb : rowB nm x y = true := by
    unfold rowO at h
    split at h
    · assumption
    · cases h
  obtain ⟨q2, w2, h1, h2, h3, h4, h5, h6, h7⟩ := rowO_s hb
  rw [h] at h7
  cases h7
  have ha := allB_ex.mp h6
  have hd : ∀ i j, i < j → j < q → ¬ dgt w i = dgt w j := fun i j hij hj e => by
    have hr := ha j hj
    unfold rowN at hr
    rw [Bool.and_eq_true] at hr
    have hn : (nsF w j).testBit (dgt w j) = true := (ns_bit j).mpr ⟨i, hij, e⟩
    rw [hn] at hr
    exact absurd hr.2 (by decide)
  refine ⟨h1, h5, fun j hj => ?_, fun i hi j hj e => ?_⟩
  · have hr := ha j hj
    unfold rowN at hr
    rw [Bool.and_eq_true, decide_eq_true_iff] at hr
    exact hr.1
  · rcases Nat.lt_or_gt_of_ne e with g | g
    · exact hd i j g hj
    · exact fun z => hd j i g hi z.symm
/-- what a new constraint's numbers keep to -/
def nwOk (nm : Nat) (t : newT) : Prop := t.1 ≤ 6 ∧ (1 ≤ t.2.1 ∧ t.2.1 ≤ 6) ∧ t.2.2.1 < 262144 ∧ (∀ j, j < t.2.1 → dgt t.2.2.1 j < nm) ∧ (∀ i, i < t.2.1 → ∀ j, j < t.2.1 → ¬ i = j → ¬ dgt t.2.2.1 i = dgt t.2.2.1 j) ∧ (t.1 = 1 → t.2.2.2.1 < 64 ∧ t.2.2.2.2.1 ≤ 1000) ∧ (2 ≤ t.1 → okc t.1 t.2.1 t.2.2.2.1 t.2.2.2.2.1 t.2.2.2.2.2) ∧ (t.1 = 3 → t.2.1 % 2 = 0) ∧ t.2.2.2.1 < 64 ∧ t.2.2.2.2.1 ≤ 1000 ∧ t.2.2.2.2.2 < 6
theorem nw_mk {nm kd q w a b z : Nat} {x y : Int32} (h : rowO nm x y = some (q, w)) (h1 : kd ≤ 6) (h2 : kd = 1 → a < 64 ∧ b ≤ 1000) (h3 : 2 ≤ kd → okc kd q a b z) (h4 : kd = 3 → q % 2 = 0) (h5 : a < 64 ∧ b ≤ 1000 ∧ z < 6) : nwOk nm (kd, q, w, a, b, z) := by
  obtain ⟨g1, g2, g3, g4⟩ := row_ok h
  exact ⟨h1, g1, g2, g3, g4, h2, h3, h4, h5.1, h5.2.1, h5.2.2⟩
theorem nw_Ta {nm : Nat} {x y : Int32} : ∀ t, oTa nm x y = some t → nwOk nm t := fun t h => by
  unfold oTa at h
  cases hr : rowO nm x y with
  | none => rw [hr] at h; cases h
  | some s =>
    rw [hr] at h
    cases h
    exact nw_mk hr (by decide) (fun q => absurd q (by decide)) (fun q => absurd q (by decide)) (fun q => absurd q (by decide)) ⟨by decide, by decide, by decide⟩
theorem nw_Ma {nm : Nat} {x y z v : Int32} : ∀ t, oMa nm x y z v = some t → nwOk nm t := fun t h => by
  unfold oMa at h
  cases hr : rowO nm x y with
  | none => rw [hr] at h; cases h
  | some s =>
    rw [hr] at h
    have h : (ixN z 64).bind (fun a => (ixN v 1001).map (fun b => (1, s.1, s.2, a, b, 0))) = some t := h
    cases ha : ixN z 64 with
    | none => rw [ha] at h; cases h
    | some a =>
      rw [ha] at h
      have h : (ixN v 1001).map (fun b => (1, s.1, s.2, a, b, 0)) = some t := h
      cases hb : ixN v 1001 with
      | none => rw [hb] at h; cases h
      | some b =>
        rw [hb] at h
        cases h
        have := ixN_b ha
        have := ixN_b hb
        exact nw_mk hr (by decide) (fun _ => ⟨by omega, by omega⟩) (fun q => absurd q (by decide)) (fun q => absurd q (by decide)) ⟨by omega, by omega, by decide⟩
theorem nw_El {nm : Nat} {x y : Int32} : ∀ t, oEl nm x y = some t → nwOk nm t := fun t h => by
  unfold oEl at h
  cases hr : rowO nm x y with
  | none => rw [hr] at h; cases h
  | some s =>
    rw [hr] at h
    have h : (if 3 ≤ s.1 then some (2, s.1, s.2, 0, 0, 0) else none) = some t := h
    split at h
    · next q =>
      cases h
      have g := (row_ok hr).1
      exact nw_mk hr (by decide) (fun q => absurd q (by decide)) (fun _ => ⟨by decide, g, fun _ => q, by decide, by decide, by decide, fun q => absurd q (by decide)⟩) (fun q => absurd q (by decide)) ⟨by decide, by decide, by decide⟩
    · cases h
theorem nw_Or {nm : Nat} {x y : Int32} {sf : Bool} : ∀ t, oOr nm x y sf = some t → nwOk nm t := fun t h => by
  unfold oOr at h
  cases hr : rowO nm x y with
  | none => rw [hr] at h; cases h
  | some s =>
    rw [hr] at h
    have h : (if s.1 % 2 = 0 then some (3, s.1, s.2, (if sf = true then 1 else 0), 0, 0) else none) = some t := h
    have h1 : (if sf = true then 1 else 0) ≤ 1 := by split <;> decide
    split at h
    · next q =>
      cases h
      have g := (row_ok hr).1
      exact nw_mk hr (by decide) (fun q => absurd q (by decide)) (fun _ => ⟨by decide, g, fun q => absurd q (by decide), by omega, by decide, by decide, fun q => absurd q (by decide)⟩) (fun _ => q) ⟨by omega, by decide, by decide⟩
    · cases h
theorem nw_Su {nm : Nat} {x y z v : Int32} : ∀ t, oSu nm x y z v = some t → nwOk nm t := fun t h => by
  unfold oSu at h
  cases hr : rowO nm x y with
  | none => rw [hr] at h; cases h
  | some s =>
    rw [hr] at h
    have h : (ixN z 31).bind (fun a => (ixN v 31).bind (fun b => if a ≤ b then some (4, s.1, s.2, a, b, 0) else none)) = some t := h
    cases ha : ixN z 31 with
    | none => rw [ha] at h; cases h
    | some a =>
      rw [ha] at h
      have h : (ixN v 31).bind (fun b => if a ≤ b then some (4, s.1, s.2, a, b, 0) else none) = some t := h
      cases hb : ixN v 31 with
      | none => rw [hb] at h; cases h
      | some b =>
        rw [hb] at h
        have h : (if a ≤ b then some (4, s.1, s.2, a, b, 0) else none) = some t := h
        have ja := ixN_b ha
        have jb := ixN_b hb
        split at h
        · cases h
          have g := (row_ok hr).1
          exact nw_mk hr (by decide) (fun q => absurd q (by decide)) (fun _ => ⟨by decide, g, fun q => absurd q (by decide), by omega, by omega, by decide, fun q => absurd q (by decide)⟩) (fun q => absurd q (by decide)) ⟨by omega, by omega, by decide⟩
        · cases h
theorem nw_Ty {nm : Nat} {x y z v g : Int32} : ∀ t, oTy nm x y z v g = some t → nwOk nm t := fun t h => by
  unfold oTy at h
  cases hr : rowO nm x y with
  | none => rw [hr] at h; cases h
  | some s =>
    rw [hr] at h
    have h : (ixN z 6).bind (fun c => (ixN v 7).bind (fun a => (ixN g 7).bind (fun b => if a ≤ b then some (5, s.1, s.2, a, b, c) else none))) = some t := h
    cases hc : ixN z 6 with
    | none => rw [hc] at h; cases h
    | some c =>
      rw [hc] at h
      have h : (ixN v 7).bind (fun a => (ixN g 7).bind (fun b => if a ≤ b then some (5, s.1, s.2, a, b, c) else none)) = some t := h
      cases ha : ixN v 7 with
      | none => rw [ha] at h; cases h
      | some a =>
        rw [ha] at h
        have h : (ixN g 7).bind (fun b => if a ≤ b then some (5, s.1, s.2, a, b, c) else none) = some t := h
        cases hb : ixN g 7 with
        | none => rw [hb] at h; cases h
        | some b =>
          rw [hb] at h
          have h : (if a ≤ b then some (5, s.1, s.2, a, b, c) else none) = some t := h
          have ja := ixN_b ha
          have jb := ixN_b hb
          have jc := ixN_b hc
          split at h
          · cases h
            have g := (row_ok hr).1
            exact nw_mk hr (by decide) (fun q => absurd q (by decide)) (fun _ => ⟨by decide, g, fun q => absurd q (by decide), by omega, by omega, jc, fun q => absurd q (by decide)⟩) (fun q => absurd q (by decide)) ⟨by omega, by omega, jc⟩
          · cases h
theorem nw_Fi {nm : Nat} {x y z v : Int32} : ∀ t, oFi nm x y z v = some t → nwOk nm t := fun t h => by
  unfold oFi at h
  cases hr : rowO nm x y with
  | none => rw [hr] at h; cases h
  | some s =>
    rw [hr] at h
    have h : (ixN z 6).bind (fun a => (ixN v 6).bind (fun b => if a = b then none else some (6, s.1, s.2, a, b, 0))) = some t := h
    cases ha : ixN z 6 with
    | none => rw [ha] at h; cases h
    | some a =>
      rw [ha] at h
      have h : (ixN v 6).bind (fun b => if a = b then none else some (6, s.1, s.2, a, b, 0)) = some t := h
      cases hb : ixN v 6 with
      | none => rw [hb] at h; cases h
      | some b =>
        rw [hb] at h
        have h : (if a = b then none else some (6, s.1, s.2, a, b, 0)) = some t := h
        have ja := ixN_b ha
        have jb := ixN_b hb
        split at h
        · cases h
        · cases h
          have g := (row_ok hr).1
          exact nw_mk hr (by decide) (fun q => absurd q (by decide)) (fun _ => ⟨by decide, g, fun q => absurd q (by decide), by omega, by omega, by decide, fun _ => ⟨ja, jb⟩⟩) (fun q => absurd q (by decide)) ⟨by omega, by omega, by decide⟩
theorem rwF_in {ro : Nat → Nat} {w c q j : Nat} (h : j < q) : rwF ro w c q (6 * c + j) = dgt w j := by
  unfold rwF
  rw [if_pos (by omega), Nat.add_sub_cancel_left]
theorem kR_new {nm cs : Nat} {K : Nat → KD} {ar : Nat → Nat → Nat} {t : newT} {ad a1 a2 : Nat} (h6 : nm ≤ 6) (h : kR nm cs K ar) (ht : nwOk nm t) : kR nm (cs + 1) (va_up K cs (kNw t.1 t.2.1 t.2.2.1 t.2.2.2.1 t.2.2.2.2.1 t.2.2.2.2.2 ad a1 a2)) (adA ar cs t.1 t.2.1 t.2.2.1 t.2.2.2.1 t.2.2.2.2.1 t.2.2.2.2.2) := by
  obtain ⟨kd, q, w, a, b, z⟩ := t
  obtain ⟨t1, t2, t3, t4, t5, t6, t7, t8, t9, t10, t11⟩ := ht
  obtain ⟨h1, g1, g2, g3, g4, g5, g6, g7, g8⟩ := h
  have hq : q ≤ 6 := t2.2
  show (∀ i, i < cs + 1 → kmo (va_up K cs _ i) (va_up (ar 10) cs kd) (va_up (ar 11) cs q) (va_up (ar 12) cs w) (rwF (ar 13) w cs q) (va_up (ar 14) cs a) (va_up (ar 15) cs b) (va_up (ar 16) cs z) (va_up (ar 17) cs 0) (ar 18) (ar 19) (ar 20) (ar 21) (ar 22) i ∧ kok (va_up K cs _ i) ∧ (∀ j, j < va_up (ar 11) cs q i → rwF (ar 13) w cs q (6 * i + j) < nm) ∧ rowD (rwF (ar 13) w cs q) i (va_up (ar 11) cs q i) ∧ va_up (ar 14) cs a i < 64 ∧ va_up (ar 15) cs b i ≤ 1000 ∧ va_up (ar 16) cs z i < 6) ∧ (∀ j, va_up (ar 10) cs kd j ≤ 6) ∧ (∀ j, va_up (ar 11) cs q j ≤ 6) ∧ (∀ j, rwF (ar 13) w cs q j < 6) ∧ (∀ j, ar 18 j < 2147483648) ∧ (∀ j, ar 19 j < 6) ∧ (∀ j, ar 20 j < 6) ∧ (∀ j, ar 21 j < 6) ∧ ∀ j, ar 22 j ≤ 100
  refine ⟨fun i hi => ?_, up_le g1 t1, up_le g2 hq, fun j => ?_, g4, g5, g6, g7, g8⟩
  · by_cases e : i = cs
    · subst e
      rw [va_up_self, va_up_self, va_up_self, va_up_self, va_up_self]
      refine ⟨kmo_nw ⟨(va_up_self _ _ _).symm, (va_up_self _ _ _).symm, (va_up_self _ _ _).symm, (va_up_self _ _ _).symm, (va_up_self _ _ _).symm, (va_up_self _ _ _).symm, (va_up_self _ _ _).symm⟩ (fun j hj => (rwF_in hj).symm), kok_nw t1 t2 t3 t6 t7 t8, fun j hj => ?_, fun i2 hi2 j hj e2 => ?_, t9, t10, t11⟩
      · rw [rwF_in hj]; exact t4 j hj
      · rw [rwF_in hi2, rwF_in hj]; exact t5 i2 hi2 j hj e2
    · rw [va_up_ne _ _ e, va_up_ne _ _ e, va_up_ne _ _ e, va_up_ne _ _ e, va_up_ne _ _ e]
      obtain ⟨k1, k2, k3, k4, k5, k6, k7⟩ := h1 i (by omega)
      have hw6 := g2 i
      have er : ∀ j, j < ar 11 i → ar 13 (6 * i + j) = rwF (ar 13) w cs q (6 * i + j) := fun j hj => by
        unfold rwF
        rw [if_neg (by omega)]
      refine ⟨kmo_cg k1 ⟨(va_up_ne _ _ e).symm, (va_up_ne _ _ e).symm, (va_up_ne _ _ e).symm, (va_up_ne _ _ e).symm, (va_up_ne _ _ e).symm, (va_up_ne _ _ e).symm, (va_up_ne _ _ e).symm⟩ er (fun _ _ _ => rfl) (fun _ _ _ => ⟨rfl, rfl, rfl, rfl⟩), k2, fun j hj => ?_, fun i2 hi2 j hj e2 => ?_, k5, k6, k7⟩
      · rw [← er j hj]; exact k3 j hj
      · rw [← er i2 hi2, ← er j hj]; exact k4 i2 hi2 j hj e2
  · unfold rwF
    split
    · next g => have := t4 (j - 6 * cs) (by show _ < q; omega); exact Nat.lt_of_lt_of_le this h6
    · exact g3 j
theorem make_R {nm cs : Nat} {K : Nat → KD} {ar : Nat → Nat → Nat} {o : Option newT} {kf : Nat → Option Nat} {ad a1 a2 : Nat} {r r2 : Int32} {u : adT} {u2 : Nat × (Nat → Nat → Nat)} (h6 : nm ≤ 6) (hc : cs ≤ 10) (h : kR nm cs K ar) (ho : ∀ t, o = some t → nwOk nm t) (hu : (r, u) = adK kf cs o ad a1 a2) (hv : (r2, u2) = adS ar cs o) : r = r2 ∧ ((u = (cs, kf, none) ∧ u2 = (cs, ar)) ∨ ∃ κ : KD, u = (cs + 1, va_up kf cs (some κ.ad), some κ) ∧ u2.1 = cs + 1 ∧ cs + 1 ≤ 10 ∧ kR nm (cs + 1) (va_up K cs κ) u2.2 ∧ ∀ k, (k < 10 ∨ 22 < k) → u2.2 k = ar k) := by
  cases o with
  | none =>
    cases hu
    cases hv
    exact ⟨rfl, Or.inl ⟨rfl, rfl⟩⟩
  | some t =>
    have hu : (r, u) = if cs = 10 then (-3, cs, kf, none) else (nI cs, cs + 1, va_up kf cs (some ad), some (kNw t.1 t.2.1 t.2.2.1 t.2.2.2.1 t.2.2.2.2.1 t.2.2.2.2.2 ad a1 a2)) := hu
    have hv : (r2, u2) = if cs = 10 then (-3, cs, ar) else (nI cs, cs + 1, adA ar cs t.1 t.2.1 t.2.2.1 t.2.2.2.1 t.2.2.2.2.1 t.2.2.2.2.2) := hv
    by_cases q : cs = 10
    · rw [if_pos q] at hu hv
      cases hu
      cases hv
      exact ⟨rfl, Or.inl ⟨rfl, rfl⟩⟩
    · rw [if_neg q] at hu hv
      cases hu
      cases hv
      refine ⟨rfl, Or.inr ⟨_, rfl, rfl, by omega, kR_new h6 h (ho t rfl), fun k hk => ?_⟩⟩
      show adA ar cs t.1 t.2.1 t.2.2.1 t.2.2.2.1 t.2.2.2.2.1 t.2.2.2.2.2 k = ar k
      unfold adA
      rw [if_neg (by omega), if_neg (by omega), if_neg (by omega), if_neg (by omega), if_neg (by omega), if_neg (by omega), if_neg (by omega), if_neg (by omega)]
