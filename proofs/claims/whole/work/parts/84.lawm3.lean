theorem oTu_R {nm cs : Nat} {K : Nat → KD} {ar : Nat → Nat → Nat} {x y : Int32} (h : kR nm cs K ar) : oTu (fun i0 => (K i0).kd) (fun i0 => (K i0).n) cs x y = oTu (ar 10) (ar 11) cs x y := by
  unfold oTu
  cases hx : ixN x cs with
  | none => rfl
  | some j =>
    obtain ⟨⟨e1, e2, -⟩, -⟩ := (h.1 j (ixN_b hx)).1
    show (if (K j).kd = 0 ∧ wordB y (K j).n true = true then (ixN y (2 ^ (3 * (K j).n))).map (fun w => (j, w)) else none) = (if ar 10 j = 0 ∧ wordB y (ar 11 j) true = true then (ixN y (2 ^ (3 * ar 11 j))).map (fun w => (j, w)) else none)
    rw [e1, e2]
theorem oTu_in {ki wi : Nat → Nat} {cs : Nat} {x y : Int32} {t : Nat × Nat} (h6 : ∀ j, wi j ≤ 6) (h : oTu ki wi cs x y = some t) : t.1 < cs ∧ ki t.1 = 0 ∧ t.2 < 2147483648 := by
  unfold oTu at h
  cases hx : ixN x cs with
  | none => rw [hx] at h; cases h
  | some j =>
    rw [hx] at h
    have h : (if ki j = 0 ∧ wordB y (wi j) true = true then (ixN y (2 ^ (3 * wi j))).map (fun w => (j, w)) else none) = some t := h
    split at h
    · next q =>
      cases hy : ixN y (2 ^ (3 * wi j)) with
      | none => rw [hy] at h; cases h
      | some w =>
        rw [hy] at h
        cases h
        have hw := ixN_b hy
        have : 2 ^ (3 * wi j) ≤ 2 ^ 18 := Nat.pow_le_pow_right (by decide) (by have := h6 j; omega)
        exact ⟨ixN_b hx, q.1, by show w < _; omega⟩
    · cases h
/-- arrays of the model, one or several of them anew -/
def arS (ar : Nat → Nat → Nat) (k : Nat) (f : Nat → Nat) : Nat → Nat → Nat := fun i => if i = k then f else ar i
theorem tuple_R {nm cs : Nat} {K : Nat → KD} {ar : Nat → Nat → Nat} {x y : Int32} {r r2 : Int32} {u : Nat → KD} {u2 : (Nat → Nat) × (Nat → Nat)} (h : kR nm cs K ar) (hu : (r, u) = tuK K (oTu (fun i0 => (K i0).kd) (fun i0 => (K i0).n) cs x y)) (hv : (r2, u2) = tuS (ar 18) (ar 17) (oTu (ar 10) (ar 11) cs x y)) : r = r2 ∧ kR nm cs u (arS (arS ar 18 u2.1) 17 u2.2) ∧ ∀ i, i < cs → (u i).ad = (K i).ad := by
  have same : ∀ br : Nat → Nat → Nat, (∀ k, 10 ≤ k → k ≤ 22 → ar k = br k) → kR nm cs K br := fun br e => kR_ar h e
  rw [oTu_R h] at hu
  cases ho : oTu (ar 10) (ar 11) cs x y with
  | none =>
    rw [ho] at hu hv
    cases hu
    cases hv
    refine ⟨rfl, same _ (fun k h1 h2 => ?_), fun _ _ => rfl⟩
    unfold arS
    (repeat' split) <;> first | rfl | (next e => rw [e]) | (next e _ => rw [e])
  | some t =>
    obtain ⟨h1, g1, g2, g3, g4, g5, g6, g7, g8⟩ := id h
    obtain ⟨s1, s2, s3⟩ := oTu_in g2 ho
    obtain ⟨k1, k2, k3, k4, k5, k6, k7⟩ := h1 t.1 s1
    have e1 := k1.1.1
    have e7 := k1.1.2.2.2.2.2.2
    have k0 : (K t.1).kd = 0 := e1.trans s2
    rw [ho] at hu hv
    have hu : (r, u) = if (K t.1).m = 20 then (-3, K) else (nI ((K t.1).m + 1), va_up K t.1 (kTu (K t.1) t.2)) := hu
    have hv : (r2, u2) = if ar 17 t.1 = 20 then (-3, ar 18, ar 17) else (nI (ar 17 t.1 + 1), va_up (ar 18) (20 * t.1 + ar 17 t.1) t.2, va_up (ar 17) t.1 (ar 17 t.1 + 1)) := hv
    rw [e7] at hu
    by_cases q : ar 17 t.1 = 20
    · rw [if_pos q] at hu hv
      cases hu
      cases hv
      refine ⟨rfl, same _ (fun k h1 h2 => ?_), fun _ _ => rfl⟩
      unfold arS
      (repeat' split) <;> first | rfl | (next e => rw [e]) | (next e _ => rw [e])
    · rw [if_neg q] at hu hv
      cases hu
      cases hv
      have hm : (K t.1).m < 20 := by have := (k2.2.2.2.1 k0).1; omega
      refine ⟨rfl, ?_, fun i hi => ?_⟩
      · show (∀ i, i < cs → kmo (va_up K t.1 (kTu (K t.1) t.2) i) (ar 10) (ar 11) (ar 12) (ar 13) (ar 14) (ar 15) (ar 16) (va_up (ar 17) t.1 (ar 17 t.1 + 1)) (va_up (ar 18) (20 * t.1 + ar 17 t.1) t.2) (ar 19) (ar 20) (ar 21) (ar 22) i ∧ kok (va_up K t.1 (kTu (K t.1) t.2) i) ∧ (∀ j, j < ar 11 i → ar 13 (6 * i + j) < nm) ∧ rowD (ar 13) i (ar 11 i) ∧ ar 14 i < 64 ∧ ar 15 i ≤ 1000 ∧ ar 16 i < 6) ∧ (∀ j, ar 10 j ≤ 6) ∧ (∀ j, ar 11 j ≤ 6) ∧ (∀ j, ar 13 j < 6) ∧ (∀ j, va_up (ar 18) (20 * t.1 + ar 17 t.1) t.2 j < 2147483648) ∧ (∀ j, ar 19 j < 6) ∧ (∀ j, ar 20 j < 6) ∧ (∀ j, ar 21 j < 6) ∧ ∀ j, ar 22 j ≤ 100
        refine ⟨fun i hi => ?_, g1, g2, g3, up_lt g4 s3, g5, g6, g7, g8⟩
        by_cases e : i = t.1
        · subst e
          rw [va_up_self]
          exact ⟨kmo_tu k1 k0, kok_tu k2 k0 hm, k3, k4, k5, k6, k7⟩
        · rw [va_up_ne _ _ e]
          obtain ⟨j1, j2, j3, j4, j5, j6, j7⟩ := h1 i hi
          refine ⟨kmo_cg j1 ⟨rfl, rfl, rfl, rfl, rfl, rfl, (va_up_ne _ _ e).symm⟩ (fun _ _ => rfl) (fun z p hp => ?_) (fun _ _ _ => ⟨rfl, rfl, rfl, rfl⟩), j2, j3, j4, j5, j6, j7⟩
          have m2 := (kok_m j2).2 (j1.1.1.trans z)
          rw [j1.1.2.2.2.2.2.2] at m2
          rw [va_up_ne _ _ (by omega)]
      · show (va_up K t.1 (kTu (K t.1) t.2) i).ad = _
        by_cases e : i = t.1
        · subst e; rw [va_up_self]; rfl
        · rw [va_up_ne _ _ e]
theorem oSt_R {nm cs : Nat} {K : Nat → KD} {ar : Nat → Nat → Nat} {x f v g z : Int32} (h : kR nm cs K ar) : oSt (fun i0 => (K i0).kd) cs x f v g z = oSt (ar 10) cs x f v g z := by
  unfold oSt
  cases hx : ixN x cs with
  | none => rfl
  | some j =>
    obtain ⟨⟨e1, -⟩, -⟩ := (h.1 j (ixN_b hx)).1
    show (if (K j).kd = 1 then _ else none) = (if ar 10 j = 1 then _ else none)
    rw [e1]
theorem oSt_in {ki : Nat → Nat} {cs : Nat} {x f v g z : Int32} {t : stT} (h : oSt ki cs x f v g z = some t) : t.1 < cs ∧ ki t.1 = 1 ∧ t.2.1 < 6 ∧ t.2.2.1 < 6 ∧ t.2.2.2.1 < 6 ∧ t.2.2.2.2 < 101 := by
  unfold oSt at h
  cases hx : ixN x cs with
  | none => rw [hx] at h; cases h
  | some j =>
    rw [hx] at h
    have h : (if ki j = 1 then (ixN f 6).bind (fun a => (ixN v 6).bind (fun b => (ixN g 6).bind (fun d => (ixN z 101).map (fun q => (j, a, b, d, q))))) else none) = some t := h
    split at h
    · next q1 =>
      cases h1 : ixN f 6 with
      | none => rw [h1] at h; cases h
      | some a =>
        rw [h1] at h
        have h : (ixN v 6).bind (fun b => (ixN g 6).bind (fun d => (ixN z 101).map (fun q => (j, a, b, d, q)))) = some t := h
        cases h2 : ixN v 6 with
        | none => rw [h2] at h; cases h
        | some b =>
          rw [h2] at h
          have h : (ixN g 6).bind (fun d => (ixN z 101).map (fun q => (j, a, b, d, q))) = some t := h
          cases h3 : ixN g 6 with
          | none => rw [h3] at h; cases h
          | some d =>
            rw [h3] at h
            have h : (ixN z 101).map (fun q => (j, a, b, d, q)) = some t := h
            cases h4 : ixN z 101 with
            | none => rw [h4] at h; cases h
            | some q =>
              rw [h4] at h
              cases h
              exact ⟨ixN_b hx, q1, ixN_b h1, ixN_b h2, ixN_b h3, ixN_b h4⟩
    · cases h
theorem step_R {nm cs : Nat} {K : Nat → KD} {ar : Nat → Nat → Nat} {x f v g z : Int32} {r r2 : Int32} {u : Nat → KD} {u2 : st5} (h : kR nm cs K ar) (hu : (r, u) = stK K (oSt (fun i0 => (K i0).kd) cs x f v g z)) (hv : (r2, u2) = stS (ar 19) (ar 20) (ar 21) (ar 22) (ar 17) (oSt (ar 10) cs x f v g z)) : r = r2 ∧ kR nm cs u (arS (arS (arS (arS (arS ar 19 u2.1) 20 u2.2.1) 21 u2.2.2.1) 22 u2.2.2.2.1) 17 u2.2.2.2.2) ∧ ∀ i, i < cs → (u i).ad = (K i).ad := by
  have same : ∀ br : Nat → Nat → Nat, (∀ k, 10 ≤ k → k ≤ 22 → ar k = br k) → kR nm cs K br := fun br e => kR_ar h e
  rw [oSt_R h] at hu
  cases ho : oSt (ar 10) cs x f v g z with
  | none =>
    rw [ho] at hu hv
    cases hu
    cases hv
    refine ⟨rfl, same _ (fun k h1 h2 => ?_), fun _ _ => rfl⟩
    unfold arS
    (repeat' split) <;> first | rfl | (next e => rw [e])
  | some t =>
    obtain ⟨h1, g1, g2, g3, g4, g5, g6, g7, g8⟩ := id h
    obtain ⟨s1, s2, s3, s4, s5, s6⟩ := oSt_in ho
    obtain ⟨k1, k2, k3, k4, k5, k6, k7⟩ := h1 t.1 s1
    have e1 := k1.1.1
    have e7 := k1.1.2.2.2.2.2.2
    have k0 : (K t.1).kd = 1 := e1.trans s2
    rw [ho] at hu hv
    have hu : (r, u) = if (K t.1).m = 30 then (-3, K) else (nI ((K t.1).m + 1), va_up K t.1 (kSt (K t.1) t.2.1 t.2.2.1 t.2.2.2.1 t.2.2.2.2)) := hu
    have hv : (r2, u2) = if ar 17 t.1 = 30 then (-3, ar 19, ar 20, ar 21, ar 22, ar 17) else (nI (ar 17 t.1 + 1), va_up (ar 19) (30 * t.1 + ar 17 t.1) t.2.1, va_up (ar 20) (30 * t.1 + ar 17 t.1) t.2.2.1, va_up (ar 21) (30 * t.1 + ar 17 t.1) t.2.2.2.1, va_up (ar 22) (30 * t.1 + ar 17 t.1) t.2.2.2.2, va_up (ar 17) t.1 (ar 17 t.1 + 1)) := hv
    rw [e7] at hu
    by_cases q : ar 17 t.1 = 30
    · rw [if_pos q] at hu hv
      cases hu
      cases hv
      refine ⟨rfl, same _ (fun k h1 h2 => ?_), fun _ _ => rfl⟩
      unfold arS
      (repeat' split) <;> first | rfl | (next e => rw [e])
    · rw [if_neg q] at hu hv
      cases hu
      cases hv
      have hm : (K t.1).m < 30 := by have := (k2.2.2.2.2.1 k0).2.2.1; omega
      refine ⟨rfl, ?_, fun i hi => ?_⟩
      · show (∀ i, i < cs → kmo (va_up K t.1 (kSt (K t.1) t.2.1 t.2.2.1 t.2.2.2.1 t.2.2.2.2) i) (ar 10) (ar 11) (ar 12) (ar 13) (ar 14) (ar 15) (ar 16) (va_up (ar 17) t.1 (ar 17 t.1 + 1)) (ar 18) (va_up (ar 19) (30 * t.1 + ar 17 t.1) t.2.1) (va_up (ar 20) (30 * t.1 + ar 17 t.1) t.2.2.1) (va_up (ar 21) (30 * t.1 + ar 17 t.1) t.2.2.2.1) (va_up (ar 22) (30 * t.1 + ar 17 t.1) t.2.2.2.2) i ∧ kok (va_up K t.1 (kSt (K t.1) t.2.1 t.2.2.1 t.2.2.2.1 t.2.2.2.2) i) ∧ (∀ j, j < ar 11 i → ar 13 (6 * i + j) < nm) ∧ rowD (ar 13) i (ar 11 i) ∧ ar 14 i < 64 ∧ ar 15 i ≤ 1000 ∧ ar 16 i < 6) ∧ (∀ j, ar 10 j ≤ 6) ∧ (∀ j, ar 11 j ≤ 6) ∧ (∀ j, ar 13 j < 6) ∧ (∀ j, ar 18 j < 2147483648) ∧ (∀ j, va_up (ar 19) (30 * t.1 + ar 17 t.1) t.2.1 j < 6) ∧ (∀ j, va_up (ar 20) (30 * t.1 + ar 17 t.1) t.2.2.1 j < 6) ∧ (∀ j, va_up (ar 21) (30 * t.1 + ar 17 t.1) t.2.2.2.1 j < 6) ∧ ∀ j, va_up (ar 22) (30 * t.1 + ar 17 t.1) t.2.2.2.2 j ≤ 100
        refine ⟨fun i hi => ?_, g1, g2, g3, g4, up_lt g5 s3, up_lt g6 s4, up_lt g7 s5, up_le g8 (by omega)⟩
        by_cases e : i = t.1
        · subst e
          rw [va_up_self]
          exact ⟨kmo_st k1 k0 s4 s3 s5 s6, kok_st k2 k0 hm s4 s3 s5 s6, k3, k4, k5, k6, k7⟩
        · rw [va_up_ne _ _ e]
          obtain ⟨j1, j2, j3, j4, j5, j6, j7⟩ := h1 i hi
          refine ⟨kmo_cg j1 ⟨rfl, rfl, rfl, rfl, rfl, rfl, (va_up_ne _ _ e).symm⟩ (fun _ _ => rfl) (fun _ _ _ => rfl) (fun z p hp => ?_), j2, j3, j4, j5, j6, j7⟩
          have m2 := (kok_m j2).1
          rw [j1.1.2.2.2.2.2.2] at m2
          have hne : ¬ 30 * i + p = 30 * t.1 + ar 17 t.1 := by omega
          exact ⟨(va_up_ne _ _ hne).symm, (va_up_ne _ _ hne).symm, (va_up_ne _ _ hne).symm, (va_up_ne _ _ hne).symm⟩
      · show (va_up K t.1 (kSt (K t.1) t.2.1 t.2.2.1 t.2.2.2.1 t.2.2.2.2) i).ad = _
        by_cases e : i = t.1
        · subst e; rw [va_up_self]; rfl
        · rw [va_up_ne _ _ e]
theorem al_R {nm cs : Nat} {K : Nat → KD} {ar : Nat → Nat → Nat} {x y : Int32} (h : kR nm cs K ar) : oAl (fun i0 => (K i0).n) cs x y = oAl (ar 11) cs x y := by
  unfold oAl
  cases hx : ixN x cs with
  | none => rfl
  | some j =>
    have e2 := (h.1 j (ixN_b hx)).1.1.2.1
    show (if wordB y (K j).n false = true then (ixN y (2 ^ (3 * (K j).n))).map (fun w => (j, w)) else none) = (if wordB y (ar 11 j) false = true then (ixN y (2 ^ (3 * ar 11 j))).map (fun w => (j, w)) else none)
    rw [e2]
theorem ct_R {nm cs j : Nat} {K : Nat → KD} {ar : Nat → Nat → Nat} {dm em wo : Nat → Nat} {rs ss rn tn : Nat → Int32} (h : kR nm cs K ar) (d : dR nm dm em rs ss rn tn) (hj : j < cs) : ctK K (ALr ar) dm j = ctF (ALr ar j) (allW em (ar 13) wo j (ar 11 j)) := by
  obtain ⟨k1, k2, k3, k4, k5, k6, k7⟩ := h.1 j hj
  have e2 := k1.1.2.1
  have hn := k2.2.1
  rw [e2] at hn
  rw [ctF_cR hn.2 (fun i hi => ⟨d.2.2.2.1 _, by rw [← d.1 _ (k3 i hi)]; exact d.2.2.1.2 _ (k3 i hi)⟩)]
  unfold ctK
  rw [e2]
  rw [cR_op (oq := fun i => em (ar 13 (6 * j + i))) (ar 11 j) 0 _ (fun i _ hi => by
    have e := k1.2.1 i (by rw [e2]; omega)
    show dm (dgt (K j).row i) = em (ar 13 (6 * j + i))
    rw [e]; exact d.1 _ (k3 i (by omega)))]
  exact cR_w (n := ar 11 j) (fun w u e => by rw [kR_low h hj w u e]) (ar 11 j) 0 (by omega) _ _ (fun i hi => absurd hi (Nat.not_lt_zero _))
theorem told_R {nm cs : Nat} {K : Nat → KD} {ar : Nat → Nat → Nat} {dm em wo : Nat → Nat} {rs ss rn tn : Nat → Int32} {x y : Int32} (h : kR nm cs K ar) (d : dR nm dm em rs ss rn tn) : (ixN x cs).elim (-2) (fun j0 => (ixN y 5).elim (-2) (told4 (fun i0 => (K i0).kd) (fun i0 => (K i0).n) (fun i0 => (K i0).row) (fun i0 => (K i0).m) j0 (ctK K (ALr ar) dm j0))) = (ixN x cs).elim (-2) (fun j => (ixN y 5).elim (-2) (told4 (ar 10) (ar 11) (ar 12) (ar 17) j (ctF (ALr ar j) (allW em (ar 13) wo j (ar 11 j))))) := by
  cases hx : ixN x cs with
  | none => rfl
  | some j =>
    have hj := ixN_b hx
    obtain ⟨e1, e2, e3, -, -, -, e7⟩ := (h.1 j hj).1.1
    show (ixN y 5).elim _ _ = (ixN y 5).elim _ _
    rw [ct_R (wo := wo) h d hj]
    have e : told4 (fun i0 => (K i0).kd) (fun i0 => (K i0).n) (fun i0 => (K i0).row) (fun i0 => (K i0).m) j = told4 (ar 10) (ar 11) (ar 12) (ar 17) j := by
      funext c q
      unfold told4
      rw [← e1, ← e2, ← e3, ← e7]
    rw [e]
theorem wyE_op {S : Nat → Nat → Nat → Nat → Prop} {op oq : Nat → Nat} {en : Nat} : ∀ d k s c, (∀ j, k ≤ j → j < k + d → op j = oq j) → (wyE S op en d k s c ↔ wyE S oq en d k s c) := fun d k s c h => by
  constructor
  · rintro ⟨w, q, ho, r⟩
    exact ⟨w, q, fun j h1 h2 => by rw [← h j h1 h2]; exact ho j h1 h2, r⟩
  · rintro ⟨w, q, ho, r⟩
    exact ⟨w, q, fun j h1 h2 => by rw [h j h1 h2]; exact ho j h1 h2, r⟩
theorem least_R {nm cs : Nat} {K : Nat → KD} {ar : Nat → Nat → Nat} {dm em wo : Nat → Nat} {rs ss rn tn : Nat → Int32} {x r : Int32} (h : kR nm cs K ar) (d : dR nm dm em rs ss rn tn) (hr : ((∀ j0, ixN x cs = some j0 → ¬ (K j0).kd = 1) ∧ r = -2) ∨ ∃ j0 op0 x0, ixN x cs = some j0 ∧ j0 < cs ∧ (K j0).kd = 1 ∧ (∀ i0, i0 < (K j0).n → op0 i0 = dm (dgt (K j0).row i0)) ∧ fst6 (wyE (cSt (K j0).f1 (K j0).f2) op0 (K j0).a (K j0).n 0 0) x0 ∧ r = lcI x0 (K j0).b) : r = ((ixN x cs).bind (fun j => if ar 10 j = 1 then some (lsF (ar 15 j) (coW (ar 11) (ar 14) (ar 17) (ar 19) (ar 20) (ar 21) (ar 22) j) (allW em (ar 13) wo j (ar 11 j))) else none)).elim (-2) oI := by
  rcases hr with ⟨h1, h2⟩ | ⟨j, op, x0, h1, h2, h3, h4, h5, h6⟩
  · rw [h2]
    cases hx : ixN x cs with
    | none => rfl
    | some j =>
      have e1 := (h.1 j (ixN_b hx)).1.1.1
      show _ = (if ar 10 j = 1 then _ else none).elim _ _
      rw [if_neg (by rw [← e1]; exact h1 j hx)]
      rfl
  · obtain ⟨k1, k2, k3, k4, k5, k6, k7⟩ := h.1 j h2
    obtain ⟨⟨e1, e2, e3, e4, e5, e6, e7⟩, er, -, eI⟩ := k1
    have hn := k2.2.1
    rw [e2] at hn
    rw [h1]
    show r = (if ar 10 j = 1 then _ else none).elim _ _
    rw [if_pos (by rw [← e1]; exact h3), h6]
    show lcI x0 (K j).b = oI _
    have hd : ∀ i, i < ar 11 j → em (ar 13 (6 * j + i)) < 64 ∧ ¬ em (ar 13 (6 * j + i)) = 0 := fun i hi => ⟨d.2.2.2.1 _, by rw [← d.1 _ (k3 i hi)]; exact d.2.2.1.2 _ (k3 i hi)⟩
    rw [allW_prod hn.2 hd, e5]
    have hb : ar 15 j ≤ 1000 := k6
    refine least_eq hb h5 ?_
    refine lst_cg (fun c => ?_) (ls_ways (Q := fun w => wyC (mSt (ar 19) (ar 20) (ar 21) (ar 22) (30 * j) (ar 17 j)) (ar 14 j) (ar 11 j) w) (fun w _ => cost_lst))
    have hI := (eI h3).1
    constructor
    · rintro ⟨hc, w, hw, q, hq, he, hp⟩
      have hm := ((mem_prod (ar 11 j) (beF em (ar 13) wo j (ar 11 j)) w).mp hw).1
      refine ⟨hc, w, q, fun i _ hi => ?_, hq, by rw [e4]; exact he, ?_⟩
      · rw [h4 i (by omega), er i (by omega), d.1 _ (k3 i (by omega))]; exact hm i (by omega)
      · rw [e2]
        rw [← e7] at hp
        exact pth_mono (fun v s t c2 hv => (hI v s t c2 hv).mpr) (fun i _ hi => (hm i (by omega)).1) hp
    · rintro ⟨hc, w, q, ho, hq, he, hp⟩
      have ho2 : ∀ i, i < ar 11 j → w i < 6 ∧ (em (ar 13 (6 * j + i))).testBit (w i) = true := fun i hi => by
        have o := ho i (Nat.zero_le _) (by omega)
        rw [h4 i (by omega), er i (by omega), d.1 _ (k3 i hi)] at o
        exact o
      refine ⟨hc, fun i => if i < ar 11 j then w i else beF em (ar 13) wo j (ar 11 j) i, (mem_prod _ _ _).mpr ⟨fun i hi => ?_, fun i hi => ?_⟩, q, hq, by rw [← e4]; exact he, ?_⟩
      · show (if i < ar 11 j then w i else _) < 6 ∧ (em (ar 13 (6 * j + i))).testBit (if i < ar 11 j then w i else _) = true
        rw [if_pos hi]; exact ho2 i hi
      · show (if i < ar 11 j then w i else _) = _
        rw [if_neg (by omega)]
      · rw [e2] at hp
        have hp := pth_mono (T := mSt (ar 19) (ar 20) (ar 21) (ar 22) (30 * j) (ar 17 j)) (fun v s t c2 hv g => by rw [← e7]; exact (hI v s t c2 hv).mp g) (fun i _ hi => (ho2 i (by omega)).1) hp
        exact pth_dep (fun i _ hi => by show w i = (if i < ar 11 j then w i else _); rw [if_pos (by omega)]) hp
