theorem gaF_s {sp bh f : Nat → Nat} {k lo i : Nat} : gaF sp bh k f lo (i + 1) = (va_up (gaF sp bh k f lo i).1 ((k + 1) * 8 + dgt (sp (lo + i)) 1) (mi ((gaF sp bh k f lo i).1 ((k + 1) * 8 + dgt (sp (lo + i)) 1)) ((gaF sp bh k f lo i).1 (k * 8 + dgt (sp (lo + i)) 0) + sp (lo + i) / 2 ^ 6)), mi (gaF sp bh k f lo i).2 ((gaF sp bh k f lo i).1 (k * 8 + dgt (sp (lo + i)) 0) + sp (lo + i) / 2 ^ 6 + bh ((k + 1) * 8 + dgt (sp (lo + i)) 1))) := rfl
theorem gaF_row {sp bh f : Nat → Nat} {k lo : Nat} : ∀ i j, ¬ j / 8 = k + 1 → (gaF sp bh k f lo i).1 j = f j
  | 0, _, _ => rfl
  | i + 1, j, h => by
    rw [gaF_s]
    have := dgt_lt (sp (lo + i)) 1
    show va_up _ _ _ j = _
    rw [va_up_ne _ _ (by omega)]
    exact gaF_row i j h
theorem gaF_mn {sp bh f : Nat → Nat} {k lo s : Nat} (hs : s < 8) : ∀ i, mnm (fun c => c = f ((k + 1) * 8 + s) ∨ ∃ j, lo ≤ j ∧ j < lo + i ∧ dgt (sp j) 1 = s ∧ c = f (k * 8 + dgt (sp j) 0) + sp j / 2 ^ 6) ((gaF sp bh k f lo i).1 ((k + 1) * 8 + s))
  | 0 => ⟨Or.inl rfl, fun c g => g.elim (fun g => by rw [g]; exact Nat.le_refl _) (fun ⟨j, h1, h2, _⟩ => by omega)⟩
  | i + 1 => by
    have ih := gaF_mn (sp := sp) (bh := bh) (f := f) (k := k) (lo := lo) hs i
    rw [gaF_s]
    show mnm _ (va_up _ _ _ ((k + 1) * 8 + s))
    have h0 := dgt_lt (sp (lo + i)) 0
    by_cases e : dgt (sp (lo + i)) 1 = s
    · rw [e, va_up_self, gaF_row i (k * 8 + dgt (sp (lo + i)) 0) (by omega)]
      refine mnm_cg (fun c => ?_) (mnm_mi ih)
      constructor
      · rintro ((g | ⟨j, g1, g2, g⟩) | g)
        · exact Or.inl g
        · exact Or.inr ⟨j, g1, by omega, g⟩
        · exact Or.inr ⟨lo + i, by omega, by omega, e, g⟩
      · rintro (g | ⟨j, g1, g2, g3, g4⟩)
        · exact Or.inl (Or.inl g)
        · by_cases q : j = lo + i
          · subst q; exact Or.inr g4
          · exact Or.inl (Or.inr ⟨j, g1, by omega, g3, g4⟩)
    · rw [va_up_ne _ _ (by omega)]
      refine mnm_cg (fun c => ?_) ih
      constructor
      · rintro (g | ⟨j, g1, g2, g⟩)
        · exact Or.inl g
        · exact Or.inr ⟨j, g1, by omega, g⟩
      · rintro (g | ⟨j, g1, g2, g3, g4⟩)
        · exact Or.inl g
        · by_cases q : j = lo + i
          · subst q; exact absurd g3 e
          · exact Or.inr ⟨j, g1, by omega, g3, g4⟩
theorem gaF_wh {sp bh f : Nat → Nat} {k lo : Nat} : ∀ i, mnm (fun c => c = 1000000 ∨ ∃ j, lo ≤ j ∧ j < lo + i ∧ c = f (k * 8 + dgt (sp j) 0) + sp j / 2 ^ 6 + bh ((k + 1) * 8 + dgt (sp j) 1)) (gaF sp bh k f lo i).2
  | 0 => ⟨Or.inl rfl, fun c g => g.elim (fun g => by rw [g]; exact Nat.le_refl _) (fun ⟨j, h1, h2, _⟩ => by omega)⟩
  | i + 1 => by
    have ih := gaF_wh (sp := sp) (bh := bh) (f := f) (k := k) (lo := lo) i
    rw [gaF_s]
    have h0 := dgt_lt (sp (lo + i)) 0
    show mnm _ (mi _ _)
    rw [gaF_row i (k * 8 + dgt (sp (lo + i)) 0) (by omega)]
    refine mnm_cg (fun c => ?_) (mnm_mi ih)
    constructor
    · rintro ((g | ⟨j, g1, g2, g⟩) | g)
      · exact Or.inl g
      · exact Or.inr ⟨j, g1, by omega, g⟩
      · exact Or.inr ⟨lo + i, by omega, by omega, g⟩
    · rintro (g | ⟨j, g1, g2, g4⟩)
      · exact Or.inl (Or.inl g)
      · by_cases q : j = lo + i
        · subst q; exact Or.inr g4
        · exact Or.inl (Or.inr ⟨j, g1, by omega, g4⟩)
/-- the least whole way over a value: not above mo, if one way before it and one behind it are so cheap -/
theorem wh_le {sp sa bh f : Nat → Nat} {k v mo : Nat} {A B : Nat → Nat → Prop} (hm : mo ≤ 1000) (hsa : sa v ≤ sa (v + 1)) (hS : stOk (cSt sp sa)) (hA : ∀ s, s < 6 → fst6 (A s) (f (k * 8 + s))) (hB : ∀ t, t < 6 → fst6 (B t) (bh ((k + 1) * 8 + t))) : (gaF sp bh k f (sa v) (sa (v + 1) - sa v)).2 ≤ mo ↔ ∃ s t e c1 c2, cSt sp sa v s t e ∧ A s c1 ∧ B t c2 ∧ c1 + e + c2 ≤ mo := by
  have h := gaF_wh (sp := sp) (bh := bh) (f := f) (k := k) (lo := sa v) (sa (v + 1) - sa v)
  constructor
  · intro g
    rcases h.1 with q | ⟨j, j1, j2, q⟩
    · omega
    · have hst : cSt sp sa v (dgt (sp j) 0) (dgt (sp j) 1) (sp j / 2 ^ 6) := ⟨j, j1, by omega, rfl, rfl, rfl⟩
      have o := hS _ _ _ _ hst
      exact ⟨_, _, _, _, _, hst, (hA _ o.1).2 (by omega), (hB _ o.2.1).2 (by omega), by omega⟩
  · rintro ⟨s, t, e, c1, c2, ⟨j, j1, j2, j3, j4, j5⟩, h1, h2, h3⟩
    have o := hS _ _ _ _ ⟨j, j1, j2, j3, j4, j5⟩
    have a := (hA s o.1).1 c1 h1
    have b := (hB t o.2.1).1 c2 h2
    have := h.2 _ (Or.inr ⟨j, j1, by omega, rfl⟩)
    rw [j3, j4, j5] at this
    omega
theorem ga_fst {sp sa bh f : Nat → Nat} {k v : Nat} {A : Nat → Nat → Prop} (hsa : sa v ≤ sa (v + 1)) (hS : stOk (cSt sp sa)) (hA : ∀ s, s < 6 → fst6 (A s) (f (k * 8 + s))) (hF : ∀ s, s < 6 → f ((k + 1) * 8 + s) = 1000000) : ∀ t, t < 6 → fst6 (fun c => ∃ s e c1, cSt sp sa v s t e ∧ A s c1 ∧ c = c1 + e) ((gaF sp bh k f (sa v) (sa (v + 1) - sa v)).1 ((k + 1) * 8 + t)) := fun t ht => by
  have h := gaF_mn (sp := sp) (bh := bh) (f := f) (k := k) (lo := sa v) (s := t) (by omega) (sa (v + 1) - sa v)
  refine ⟨?_, fun g => ?_⟩
  · rintro c ⟨s, e, c1, ⟨j, j1, j2, j3, j4, j5⟩, h1, h2⟩
    have o := hS _ _ _ _ ⟨j, j1, j2, j3, j4, j5⟩
    have a := (hA s o.1).1 c1 h1
    have := h.2 _ (Or.inr ⟨j, j1, by omega, j4, rfl⟩)
    rw [j3, j5] at this
    omega
  · rcases h.1 with q | ⟨j, j1, j2, j3, q⟩
    · rw [hF t ht] at q; omega
    · have hst : cSt sp sa v (dgt (sp j) 0) t (sp j / 2 ^ 6) := ⟨j, j1, by omega, rfl, j3, rfl⟩
      have o := hS _ _ _ _ hst
      exact ⟨_, _, _, hst, (hA _ o.1).2 (by omega), q⟩
/-- all values of a place -/
theorem mkV_row {sp sa op bh : Nat → Nat} {mo k : Nat} {u : (Nat → Nat) × (Nat → Nat)} : ∀ i j, ¬ j / 8 = k + 1 → (mkV sp sa op bh mo k u i).1 j = u.1 j
  | 0, j, h => mf_row h (by decide)
  | i + 1, j, h => by
    rcases hb : (op k).testBit i with _ | _
    · rw [mkV_f hb]; exact mkV_row i j h
    · rw [mkV_t hb]
      show (gaF _ _ _ _ _ _).1 j = _
      rw [gaF_row _ _ h]; exact mkV_row i j h
theorem mkV_mn {sp sa op bh : Nat → Nat} {mo k s : Nat} {u : (Nat → Nat) × (Nat → Nat)} (hs : s < 6) (hsa : ∀ j, j < 6 → sa j ≤ sa (j + 1)) : ∀ i, i ≤ 6 → mnm (fun c => c = 1000000 ∨ ∃ v f e, v < i ∧ (op k).testBit v = true ∧ cSt sp sa v f s e ∧ c = u.1 (k * 8 + f) + e) ((mkV sp sa op bh mo k u i).1 ((k + 1) * 8 + s))
  | 0, _ => by
    show mnm _ (mf u.1 (k + 1) 6 ((k + 1) * 8 + s))
    rw [mf_at hs]
    exact ⟨Or.inl rfl, fun c g => g.elim (fun g => by rw [g]; exact Nat.le_refl _) (fun ⟨v, t, e, h, _⟩ => by omega)⟩
  | i + 1, hi => by
    have ih := mkV_mn (sp := sp) (sa := sa) (op := op) (bh := bh) (mo := mo) (k := k) (u := u) hs hsa i (by omega)
    rcases hb : (op k).testBit i with _ | _
    · rw [mkV_f hb]
      refine mnm_cg (fun c => ?_) ih
      constructor
      · rintro (g | ⟨v, t, e, g1, g⟩)
        · exact Or.inl g
        · exact Or.inr ⟨v, t, e, by omega, g⟩
      · rintro (g | ⟨v, t, e, g1, g2, g⟩)
        · exact Or.inl g
        · by_cases q : v = i
          · subst q; rw [hb] at g2; cases g2
          · exact Or.inr ⟨v, t, e, by omega, g2, g⟩
    · rw [mkV_t hb]
      show mnm _ ((gaF _ _ _ _ _ _).1 _)
      have h := gaF_mn (sp := sp) (bh := bh) (f := (mkV sp sa op bh mo k u i).1) (k := k) (lo := sa i) (s := s) (by omega) (sa (i + 1) - sa i)
      have hm := hsa i (by omega)
      refine ⟨?_, fun c g => ?_⟩
      · rcases h.1 with g | ⟨j, g1, g2, g3, g4⟩
        · rcases ih.1 with q | ⟨v, t, e, q1, q⟩
          · exact Or.inl (g.trans q)
          · exact Or.inr ⟨v, t, e, by omega, q.1, q.2.1, g.trans q.2.2⟩
        · refine Or.inr ⟨i, dgt (sp j) 0, sp j / 2 ^ 6, by omega, hb, ⟨j, g1, by omega, rfl, g3, rfl⟩, ?_⟩
          rw [g4, mkV_row]
          have := dgt_lt (sp j) 0
          omega
      · rcases g with g | ⟨v, t, e, g1, g2, ⟨j, j1, j2, j3, j4, j5⟩, g4⟩
        · exact Nat.le_trans (h.2 _ (Or.inl rfl)) (ih.2 c (Or.inl g))
        · by_cases q : v = i
          · subst q
            refine h.2 c (Or.inr ⟨j, j1, by omega, j4, ?_⟩)
            rw [j3, j5, mkV_row]
            · exact g4
            · have := dgt_lt (sp j) 0
              omega
          · exact Nat.le_trans (h.2 _ (Or.inl rfl)) (ih.2 c (Or.inr ⟨v, t, e, by omega, g2, ⟨j, j1, j2, j3, j4, j5⟩, g4⟩))
theorem mkV_bit {sp sa op bh : Nat → Nat} {mo k : Nat} {u : (Nat → Nat) × (Nat → Nat)} {A B : Nat → Nat → Prop} (hm : mo ≤ 1000) (hsa : ∀ j, j < 6 → sa j ≤ sa (j + 1)) (hS : stOk (cSt sp sa)) (hA : ∀ s, s < 6 → fst6 (A s) (u.1 (k * 8 + s))) (hB : ∀ t, t < 6 → fst6 (B t) (bh ((k + 1) * 8 + t))) : ∀ i, i ≤ 6 → ∀ j v, ((mkV sp sa op bh mo k u i).2 j).testBit v = true ↔ (u.2 j).testBit v = true ∨ (j = k ∧ v < i ∧ (op k).testBit v = true ∧ ∃ s t e c1 c2, cSt sp sa v s t e ∧ A s c1 ∧ B t c2 ∧ c1 + e + c2 ≤ mo)
  | 0, _, j, v => ⟨Or.inl, fun h => h.elim id (fun h => absurd h.2.1 (Nat.not_lt_zero _))⟩
  | i + 1, hi, j, v => by
    have ih := mkV_bit (op := op) (u := u) hm hsa hS hA hB i (by omega) j v
    rcases hb : (op k).testBit i with _ | _
    · rw [mkV_f hb, ih]
      constructor
      · rintro (g | ⟨g1, g2, g⟩)
        · exact Or.inl g
        · exact Or.inr ⟨g1, by omega, g⟩
      · rintro (g | ⟨g1, g2, g3, g⟩)
        · exact Or.inl g
        · by_cases q : v = i
          · subst q; rw [hb] at g3; cases g3
          · exact Or.inr ⟨g1, by omega, g3, g⟩
    · rw [mkV_t hb]
      have hw := wh_le (sp := sp) (sa := sa) (bh := bh) (f := (mkV sp sa op bh mo k u i).1) (k := k) (v := i) (mo := mo) (A := A) (B := B) hm (hsa i (by omega)) hS (fun s hs => by rw [mkV_row _ _ (by omega)]; exact hA s hs) hB
      show ((ite _ _ _ : Nat → Nat) j).testBit v = true ↔ _
      by_cases c : (gaF sp bh k (mkV sp sa op bh mo k u i).1 (sa i) (sa (i + 1) - sa i)).2 ≤ mo
      · rw [if_pos c]
        have hw2 := hw.mp c
        by_cases ej : j = k
        · subst ej
          rw [va_up_self, Nat.testBit_or, Bool.or_eq_true, ih, Nat.one_mul, Nat.testBit_two_pow, decide_eq_true_iff]
          constructor
          · rintro ((g | ⟨g1, g2, g⟩) | g)
            · exact Or.inl g
            · exact Or.inr ⟨g1, by omega, g⟩
            · subst g; exact Or.inr ⟨rfl, by omega, hb, hw2⟩
          · rintro (g | ⟨g1, g2, g3, g⟩)
            · exact Or.inl (Or.inl g)
            · by_cases q : v = i
              · exact Or.inr q.symm
              · exact Or.inl (Or.inr ⟨g1, by omega, g3, g⟩)
        · rw [va_up_ne _ _ ej, ih]
          exact ⟨fun g => g.elim Or.inl (fun g => absurd g.1 ej), fun g => g.elim Or.inl (fun g => absurd g.1 ej)⟩
      · rw [if_neg c, ih]
        constructor
        · rintro (g | ⟨g1, g2, g⟩)
          · exact Or.inl g
          · exact Or.inr ⟨g1, by omega, g⟩
        · rintro (g | ⟨g1, g2, g3, g⟩)
          · exact Or.inl g
          · by_cases q : v = i
            · subst q; exact absurd (hw.mpr g) c
            · exact Or.inr ⟨g1, by omega, g3, g⟩
/-- the ways from the beginning to place k and state s, by open values -/
def wyB (S : Nat → Nat → Nat → Nat → Prop) (op : Nat → Nat) (k s c : Nat) : Prop := ∃ w, opn op w 0 k ∧ pth S w k 0 0 s c
theorem wyB_s {S : Nat → Nat → Nat → Nat → Prop} {op : Nat → Nat} {k t c : Nat} : wyB S op (k + 1) t c ↔ ∃ v s e c1, v < 6 ∧ (op k).testBit v = true ∧ S v s t e ∧ wyB S op k s c1 ∧ c = c1 + e := by
  constructor
  · rintro ⟨w, ho, h⟩
    obtain ⟨s, c1, c2, p1, p2, p3⟩ := pth_app.mp h
    rw [Nat.zero_add, pth_1] at p2
    have o := ho k (Nat.zero_le _) (by omega)
    exact ⟨w k, s, c2, c1, o.1, o.2, p2, ⟨w, fun j g1 g2 => ho j g1 (by omega), p1⟩, p3⟩
  · rintro ⟨v, s, e, c1, hv, ho, hS, ⟨w, hw, hp⟩, hc⟩
    refine ⟨va_up w k v, fun j g1 g2 => ?_, pth_app.mpr ⟨s, c1, e, pth_dep (fun j g1 g2 => (va_up_ne _ _ (by omega)).symm) hp, ?_, hc⟩⟩
    · by_cases q : j = k
      · subst q; rw [va_up_self]; exact ⟨hv, ho⟩
      · rw [va_up_ne _ _ q]; exact hw j g1 (by omega)
    · rw [Nat.zero_add, pth_1, va_up_self]; exact hS
theorem ah_0 {S : Nat → Nat → Nat → Nat → Prop} {op ah : Nat → Nat} : ∀ s, s < 6 → fst6 (wyB S op 0 s) (va_up (mf ah 0 6) 0 0 (0 * 8 + s)) := fun s hs => by
  by_cases e : s = 0
  · subst e
    show fst6 _ (va_up _ 0 0 0)
    rw [va_up_self]
    exact ⟨fun c _ => Nat.zero_le _, fun _ => ⟨fun _ => 0, fun j g1 g2 => by omega, rfl, rfl⟩⟩
  · rw [va_up_ne _ _ (by omega), mf_at hs]
    refine ⟨?_, fun h => absurd h (by decide)⟩
    rintro c ⟨w, -, h, -⟩
    exact absurd h.symm e
theorem mkP_fst {sp sa op bh ah : Nat → Nat} {mo : Nat} {kp : Nat → Nat} (hsa : ∀ j, j < 6 → sa j ≤ sa (j + 1)) (hS : stOk (cSt sp sa)) : ∀ i s, s < 6 → fst6 (wyB (cSt sp sa) op i s) ((mkP sp sa op bh mo (va_up (mf ah 0 6) 0 0, kp) i).1 (i * 8 + s))
  | 0, s, hs => ah_0 s hs
  | i + 1, s, hs => by
    have ih := mkP_fst (sp := sp) (sa := sa) (op := op) (bh := bh) (ah := ah) (mo := mo) (kp := kp) hsa hS i
    show fst6 _ ((mkV sp sa op bh mo i (mkP sp sa op bh mo (va_up (mf ah 0 6) 0 0, kp) i) 6).1 ((i + 1) * 8 + s))
    have h := mkV_mn (sp := sp) (sa := sa) (op := op) (bh := bh) (mo := mo) (k := i) (u := mkP sp sa op bh mo (va_up (mf ah 0 6) 0 0, kp) i) hs hsa 6 (by decide)
    refine ⟨fun c g => ?_, fun g => ?_⟩
    · rw [wyB_s] at g
      obtain ⟨v, f, e, c1, hv, ho, hSt, hy, hc⟩ := g
      have hf := (hS _ _ _ _ hSt).1
      have := (ih f hf).1 c1 hy
      have := h.2 _ (Or.inr ⟨v, f, e, hv, ho, hSt, rfl⟩)
      omega
    · rw [wyB_s]
      rcases h.1 with q | ⟨v, f, e, q1, q2, q3, q4⟩
      · omega
      · exact ⟨v, f, e, _, q1, q2, q3, (ih f (hS _ _ _ _ q3).1).2 (by omega), q4⟩
theorem mac_ex {S : Nat → Nat → Nat → Nat → Prop} {op : Nat → Nat} {en mo n : Nat} : (∃ c, c ≤ mo ∧ wyE S op en n 0 0 c) ↔ ∃ w, opn op w 0 n ∧ macA S en mo n w := by
  constructor
  · rintro ⟨c, hc, w, q, ho, hq, he, hp⟩
    exact ⟨w, ho, c, hc, q, hq, he, hp⟩
  · rintro ⟨w, ho, c, hc, q, hq, he, hp⟩
    exact ⟨c, hc, w, q, ho, hq, he, hp⟩
/-- a cheap way over value v at place j -/
theorem mac_at {S : Nat → Nat → Nat → Nat → Prop} {op : Nat → Nat} {en mo n j v : Nat} (hj : j < n) (hv : v < 6) (ho : (op j).testBit v = true) : (∃ s t e c1 c2, S v s t e ∧ wyB S op j s c1 ∧ wyE S op en (n - (j + 1)) (j + 1) t c2 ∧ c1 + e + c2 ≤ mo) ↔ ∃ w, opn op w 0 n ∧ macA S en mo n w ∧ w j = v := by
  have hn : n = j + (1 + (n - (j + 1))) := by omega
  constructor
  · rintro ⟨s, t, e, c1, c2, hS, ⟨w1, o1, p1⟩, ⟨w2, q, o2, hq, he, p2⟩, hc⟩
    refine ⟨fun i => if i < j then w1 i else if i = j then v else w2 i, fun i g1 g2 => ?_, ⟨c1 + e + c2, hc, q, hq, he, ?_⟩, ?_⟩
    · show (if i < j then w1 i else if i = j then v else w2 i) < 6 ∧ (op i).testBit (if i < j then w1 i else if i = j then v else w2 i) = true
      by_cases h1 : i < j
      · rw [if_pos h1]; exact o1 i g1 (by omega)
      · rw [if_neg h1]
        by_cases h2 : i = j
        · rw [if_pos h2, h2]; exact ⟨hv, ho⟩
        · rw [if_neg h2]; exact o2 i (by omega) (by omega)
    · rw [hn]
      refine pth_app.mpr ⟨s, c1, e + c2, pth_dep (fun i g1 g2 => ?_) p1, pth_app.mpr ⟨t, e, c2, ?_, pth_dep (fun i g1 g2 => ?_) (by rw [Nat.zero_add]; exact p2), rfl⟩, by omega⟩
      · show w1 i = (if i < j then w1 i else if i = j then v else w2 i)
        rw [if_pos (by omega)]
      · rw [Nat.zero_add, pth_1]
        show S (if j < j then w1 j else if j = j then v else w2 j) s t e
        rw [if_neg (Nat.lt_irrefl _), if_pos rfl]
        exact hS
      · show w2 i = (if i < j then w1 i else if i = j then v else w2 i)
        rw [if_neg (by omega), if_neg (by omega)]
    · show (if j < j then w1 j else if j = j then v else w2 j) = v
      rw [if_neg (Nat.lt_irrefl _), if_pos rfl]
  · rintro ⟨w, hw, ⟨c, hc, q, hq, he, hp⟩, hv2⟩
    rw [hn] at hp
    obtain ⟨s, c1, c3, p1, p2, p3⟩ := pth_app.mp hp
    obtain ⟨t, e, c2, p4, p5, p6⟩ := pth_app.mp p2
    rw [Nat.zero_add] at p4 p5
    rw [pth_1, hv2] at p4
    exact ⟨s, t, e, c1, c2, p4, ⟨w, fun i g1 g2 => hw i g1 (by omega), p1⟩, ⟨w, q, fun i g1 g2 => hw i (by omega) (by omega), hq, he, p5⟩, by omega⟩
theorem bh_row {sp sa op bh : Nat → Nat} {en n k : Nat} (hk : k < n) (hsa : ∀ j, j < 6 → sa j ≤ sa (j + 1)) (hS : stOk (cSt sp sa)) : ∀ t, t < 6 → fst6 (wyE (cSt sp sa) op en (n - (k + 1)) (k + 1) t) (bhP sp sa op en n bh n ((k + 1) * 8 + t)) := fun t ht => by
  have h := bhP_fst (sp := sp) (sa := sa) (op := op) (bh := bh) (en := en) (n := n) hsa hS n (Nat.le_refl _) (n - (k + 1)) t (by omega) ht
  rw [show n - (n - (k + 1)) = k + 1 by omega] at h
  exact h
theorem mkP_bit {sp sa op bh ah kp : Nat → Nat} {en mo n : Nat} (hm : mo ≤ 1000) (hsa : ∀ j, j < 6 → sa j ≤ sa (j + 1)) (hS : stOk (cSt sp sa)) : ∀ i, i ≤ n → ∀ j v, ((mkP sp sa op (bhP sp sa op en n bh n) mo (va_up (mf ah 0 6) 0 0, kp) i).2 j).testBit v = true ↔ (kp j).testBit v = true ∨ (j < i ∧ v < 6 ∧ (op j).testBit v = true ∧ ∃ w, opn op w 0 n ∧ macA (cSt sp sa) en mo n w ∧ w j = v)
  | 0, _, j, v => ⟨Or.inl, fun h => h.elim id (fun h => absurd h.1 (Nat.not_lt_zero _))⟩
  | i + 1, hi, j, v => by
    have ih := mkP_bit (n := n) (op := op) (bh := bh) (ah := ah) (kp := kp) (en := en) hm hsa hS i (by omega) j v
    show ((mkV sp sa op (bhP sp sa op en n bh n) mo i (mkP sp sa op (bhP sp sa op en n bh n) mo (va_up (mf ah 0 6) 0 0, kp) i) 6).2 j).testBit v = true ↔ _
    rw [mkV_bit hm hsa hS (mkP_fst hsa hS i) (bh_row (k := i) (by omega) hsa hS) 6 (Nat.le_refl _) j v, ih]
    constructor
    · rintro ((g | ⟨g1, g⟩) | ⟨g1, g2, g3, g⟩)
      · exact Or.inl g
      · exact Or.inr ⟨by omega, g⟩
      · subst g1
        exact Or.inr ⟨by omega, g2, g3, (mac_at (by omega) g2 g3).mp g⟩
    · rintro (g | ⟨g1, g2, g3, g⟩)
      · exact Or.inl (Or.inl g)
      · by_cases e : j = i
        · subst e; exact Or.inr ⟨rfl, g2, g3, (mac_at (by omega) g2 g3).mpr g⟩
        · exact Or.inl (Or.inr ⟨by omega, g2, g3, g⟩)
theorem mac_exW {S : Nat → Nat → Nat → Nat → Prop} {op : Nat → Nat} {en mo n : Nat} {al : (Nat → Nat) → Bool} (hal : ∀ w : Nat → Nat, (∀ j, j < n → w j < 6) → (al w = true ↔ macA S en mo n w)) : (∃ c, c ≤ mo ∧ wyE S op en n 0 0 c) ↔ exW op n al := by
  rw [mac_ex]
  constructor
  · rintro ⟨w, ho, h⟩
    have ho := opn_0.mp ho
    exact ⟨w, ho, (hal w (fun j hj => (ho j hj).1)).mpr h⟩
  · rintro ⟨w, ho, h⟩
    exact ⟨w, opn_0.mpr ho, (hal w (fun j hj => (ho j hj).1)).mp h⟩
theorem mac_ke {sp sa op bh ah kp : Nat → Nat} {en mo n : Nat} {al : (Nat → Nat) → Bool} (hm : mo ≤ 1000) (hsa : ∀ j, j < 6 → sa j ≤ sa (j + 1)) (hS : stOk (cSt sp sa)) (hal : ∀ w : Nat → Nat, (∀ j, j < n → w j < 6) → (al w = true ↔ macA (cSt sp sa) en mo n w)) (h0 : ∀ j, j < n → kp j = 0) : keM op n al (mkP sp sa op (bhP sp sa op en n bh n) mo (va_up (mf ah 0 6) 0 0, kp) n).2 := keM_mk (fun j hj v => by
  rw [mkP_bit hm hsa hS n (Nat.le_refl _), h0 j hj, Nat.zero_testBit]
  constructor
  · rintro (h | ⟨-, -, -, w, ho, h, e⟩)
    · cases h
    · have ho := opn_0.mp ho
      exact ⟨w, ho, by rw [Bool.and_eq_true]; exact ⟨(hal w (fun j hj => (ho j hj).1)).mpr h, decide_eq_true e⟩⟩
  · rintro ⟨w, ho, h⟩
    rw [Bool.and_eq_true] at h
    have e := of_decide_eq_true h.2
    have o := ho j hj
    rw [e] at o
    exact Or.inr ⟨hj, o.1, o.2, w, opn_0.mpr ho, (hal w (fun j hj => (ho j hj).1)).mp h.1, e⟩)
