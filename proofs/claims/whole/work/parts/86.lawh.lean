theorem ixl {i L k : Nat} (h : i + 6 ≤ L) (hk : k < 6) : i + k < L := by omega
theorem cl4 {C a b : Nat} (h : C + 4 ≤ 600000) (hab : a + b ≤ 4) : C + a + b ≤ 600000 := by omega
theorem cl60 {C a b : Nat} (h : C + 60 ≤ 7302250) (hab : a + b ≤ 60) : C + a + b ≤ 7302250 := by omega
theorem kR_a {nm cs k : Nat} {K : Nat → KD} {ar : Nat → Nat → Nat} {f : Nat → Nat} (h : kR nm cs K ar) (hk : k < 10 ∨ 22 < k) : kR nm cs K (arS ar k f) := kR_ar h (fun j h1 h2 => by unfold arS; rw [if_neg (by omega)])
theorem le_j6 {j nm v : Nat} (h1 : j < nm) (h2 : v < 6) : 6 * j + v < 6 * nm := by omega
theorem kf_up {cs : Nat} {kf : Nat → Option Nat} {K : Nat → KD} {κ : KD} (h : ∀ i, i < cs → kf i = some (K i).ad) : ∀ i, i < cs + 1 → va_up kf cs (some κ.ad) i = some (va_up K cs κ i).ad := fun j hj => by
  by_cases q : j = cs
  · rw [q, va_up_self, va_up_self]
  · rw [va_up_ne _ _ q, va_up_ne _ _ q]; exact h j (by omega)
theorem adS_hi {ar : Nat → Nat → Nat} {cs : Nat} {o : Option newT} {r : Int32} {u : Nat × (Nat → Nat → Nat)} (h : (r, u) = adS ar cs o) : ∀ k, 17 < k → u.2 k = ar k := fun k hk => by
  cases o with
  | none => cases h; rfl
  | some t =>
    have h : (r, u) = if cs = 10 then (-3, cs, ar) else (nI cs, cs + 1, adA ar cs t.1 t.2.1 t.2.2.1 t.2.2.2.1 t.2.2.2.2.1 t.2.2.2.2.2) := h
    by_cases q : cs = 10
    · rw [if_pos q] at h; cases h; rfl
    · rw [if_neg q] at h
      cases h
      show adA ar cs t.1 t.2.1 t.2.2.1 t.2.2.2.1 t.2.2.2.2.1 t.2.2.2.2.2 k = ar k
      unfold adA
      rw [if_neg (by omega), if_neg (by omega), if_neg (by omega), if_neg (by omega), if_neg (by omega), if_neg (by omega), if_neg (by omega), if_neg (by omega)]
theorem kR_17 {nm cs : Nat} {K : Nat → KD} {v ar : Nat → Nat → Nat} (h : kR nm cs K v) (e : ∀ k, 17 < k → v k = ar k) : kR nm cs K (arS (arS (arS (arS (arS (arS (arS (arS ar 10 (v 10)) 11 (v 11)) 12 (v 12)) 13 (v 13)) 14 (v 14)) 15 (v 15)) 16 (v 16)) 17 (v 17)) := kR_ar h (fun k h1 h2 => by
  rcases (show k = 10 ∨ k = 11 ∨ k = 12 ∨ k = 13 ∨ k = 14 ∨ k = 15 ∨ k = 16 ∨ k = 17 ∨ 17 < k by omega) with q | q | q | q | q | q | q | q | q
  all_goals first | (subst q; rfl) | (rw [e k q]; unfold arS; rw [if_neg (by omega), if_neg (by omega), if_neg (by omega), if_neg (by omega), if_neg (by omega), if_neg (by omega), if_neg (by omega), if_neg (by omega)]))
theorem mR_n {nm n2 mk : Nat} {M : Nat → MD} {kd : Nat → Nat} {kr kn : Nat → Int32} (h : mR nm mk M kd kr kn) (e : 0 < mk → n2 = nm) : mR n2 mk M kd kr kn := ⟨h.1, fun i hi => by rw [e (by omega)]; exact h.2 i hi⟩
theorem ne8 {mk : Nat} (h : mk < 8) : ¬ mk = 8 := Nat.ne_of_lt h
theorem mf_up {mk : Nat} {mf8 : Nat → Option Nat} {M : Nat → MD} {a b c : Nat} {d : Nat → Nat} {r q : Nat → Int32} (h : ∀ i, i < 8 → mf8 i = some (M i).1) (h8 : mk < 8) : ∀ i, i < 8 → mf8 i = some (va_up M mk ((M mk).1, a, b, c, d, r, q) i).1 := fun j hj => by
  by_cases e : j = mk
  · rw [e, va_up_self]; exact h mk h8
  · rw [va_up_ne _ _ e]; exact h j hj
theorem kf_dn {cs : Nat} {kf : Nat → Option Nat} {K : Nat → KD} (h : ∀ i, i < cs → kf i = some (K i).ad) : ∀ i, i < cs - 1 → va_up kf (cs - 1) none i = some (K i).ad := fun j hj => by
  rw [va_up_ne _ _ (by omega)]; exact h j (by omega)
theorem pool_dn {cI : ClassId} {K : Nat → KD} {cs : Nat} (h : ¬ cs = 0) : (pool cI K (cs - 1)).Sublist (pool cI K cs) := by
  obtain ⟨k, rfl⟩ : ∃ k, cs = k + 1 := ⟨cs - 1, by omega⟩
  exact List.sublist_append_left _ _
def brS (br : Nat → Nat → Int32) (k : Nat) (f : Nat → Int32) : Nat → Nat → Int32 := fun i => if i = k then f else br i
theorem oCut_in {nm : Nat} {x y : Int32} : ∀ t, oCut nm x y = some t → t.1 < nm ∧ t.2 < 64 := fun t h => by
  unfold oCut at h
  cases hx : ixN x nm with
  | none => rw [hx] at h; cases h
  | some j =>
    rw [hx] at h
    have h : (ixN y 64).map (fun w => (j, w)) = some t := h
    cases hy : ixN y 64 with
    | none => rw [hy] at h; cases h
    | some w =>
      rw [hy] at h
      cases h
      exact ⟨ixN_b hx, ixN_b hy⟩
