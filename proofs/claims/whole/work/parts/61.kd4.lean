def cSt (sp sa : Nat → Nat) (v s t c : Nat) : Prop := ∃ i, sa v ≤ i ∧ i < sa (v + 1) ∧ dgt (sp i) 0 = s ∧ dgt (sp i) 1 = t ∧ sp i / 2 ^ 6 = c
/-- x is the least number of a set -/
def mnm (P : Nat → Prop) (x : Nat) : Prop := P x ∧ ∀ c, P c → x ≤ c
theorem mnm_cg {P Q : Nat → Prop} {x : Nat} (h : ∀ c, P c ↔ Q c) (g : mnm P x) : mnm Q x := ⟨(h x).mp g.1, fun c q => g.2 c ((h c).mpr q)⟩
theorem mnm_mi {P : Nat → Prop} {x y : Nat} (h : mnm P x) : mnm (fun c => P c ∨ c = y) (mi x y) := by
  unfold mi
  by_cases q : y < x
  · rw [if_pos q]
    exact ⟨Or.inr rfl, fun c g => g.elim (fun g => by have := h.2 c g; omega) (fun g => by omega)⟩
  · rw [if_neg q]
    exact ⟨Or.inl h.1, fun c g => g.elim (fun g => h.2 c g) (fun g => by omega)⟩
/-- a cost that is right where it is less than FAR -/
def fst6 (P : Nat → Prop) (x : Nat) : Prop := (∀ c, P c → x ≤ c) ∧ (x < 1000000 → P x)
theorem fst6_cg {P Q : Nat → Prop} {x : Nat} (h : ∀ c, P c ↔ Q c) (g : fst6 P x) : fst6 Q x := ⟨fun c q => g.1 c ((h c).mpr q), fun q => (h x).mp (g.2 q)⟩
theorem gbF_row {sp f : Nat → Nat} {k lo : Nat} : ∀ i j, ¬ j / 8 = k → gbF sp k f lo i j = f j
  | 0, _, _ => rfl
  | i + 1, j, h => by
    show va_up (gbF sp k f lo i) _ _ j = _
    have := dgt_lt (sp (lo + i)) 0
    rw [va_up_ne _ _ (by omega)]
    exact gbF_row i j h
theorem gbF_mn {sp f : Nat → Nat} {k lo s : Nat} (hs : s < 8) : ∀ i, mnm (fun c => c = f (k * 8 + s) ∨ ∃ j, lo ≤ j ∧ j < lo + i ∧ dgt (sp j) 0 = s ∧ c = f ((k + 1) * 8 + dgt (sp j) 1) + sp j / 2 ^ 6) (gbF sp k f lo i (k * 8 + s))
  | 0 => ⟨Or.inl rfl, fun c g => g.elim (fun g => by rw [g]; exact Nat.le_refl _) (fun ⟨j, h1, h2, _⟩ => by omega)⟩
  | i + 1 => by
    have ih := gbF_mn (sp := sp) (f := f) (k := k) (lo := lo) hs i
    show mnm _ (va_up (gbF sp k f lo i) (k * 8 + dgt (sp (lo + i)) 0) (mi (gbF sp k f lo i (k * 8 + dgt (sp (lo + i)) 0)) (gbF sp k f lo i ((k + 1) * 8 + dgt (sp (lo + i)) 1) + sp (lo + i) / 2 ^ 6)) (k * 8 + s))
    have h1 := dgt_lt (sp (lo + i)) 1
    by_cases e : dgt (sp (lo + i)) 0 = s
    · rw [e, va_up_self, gbF_row i ((k + 1) * 8 + dgt (sp (lo + i)) 1) (by omega)]
      refine mnm_cg (fun c => ?_) (mnm_mi ih)
      constructor
      · rintro ((g | ⟨j, g1, g2, g⟩) | g)
        · exact Or.inl g
        · exact Or.inr ⟨j, g1, by omega, g⟩
        · exact Or.inr ⟨lo + i, by omega, by omega, e, g⟩
      · rintro (g | ⟨j, g1, g2, g3, g4⟩)
        · exact Or.inl (Or.inl g)
        · by_cases q : j = lo + i
          · subst q; exact Or.inr g4
          · exact Or.inl (Or.inr ⟨j, g1, by omega, g3, g4⟩)
    · rw [va_up_ne _ _ (by omega)]
      refine mnm_cg (fun c => ?_) ih
      constructor
      · rintro (g | ⟨j, g1, g2, g⟩)
        · exact Or.inl g
        · exact Or.inr ⟨j, g1, by omega, g⟩
      · rintro (g | ⟨j, g1, g2, g3, g4⟩)
        · exact Or.inl g
        · by_cases q : j = lo + i
          · subst q; exact absurd g3 e
          · exact Or.inr ⟨j, g1, by omega, g3, g4⟩
theorem mf_row {f : Nat → Nat} {k i j : Nat} (h : ¬ j / 8 = k) (hi : i ≤ 8) : mf f k i j = f j := by
  unfold mf
  rw [if_neg (by omega)]
theorem mf_at {f : Nat → Nat} {k s : Nat} (hs : s < 6) : mf f k 6 (k * 8 + s) = 1000000 := by
  unfold mf
  rw [if_pos (by omega)]
theorem bhV_row {sp sa op f : Nat → Nat} {k : Nat} : ∀ i j, ¬ j / 8 = k → bhV sp sa op k f i j = f j
  | 0, j, h => mf_row h (by decide)
  | i + 1, j, h => by
    rcases hb : (op k).testBit i with _ | _
    · rw [← bhV_f hb]; exact bhV_row i j h
    · rw [← bhV_t hb, gbF_row _ _ h]; exact bhV_row i j h
theorem bhV_mn {sp sa op f : Nat → Nat} {k s : Nat} (hs : s < 6) (hsa : ∀ j, j < 6 → sa j ≤ sa (j + 1)) : ∀ i, i ≤ 6 → mnm (fun c => c = 1000000 ∨ ∃ v t e, v < i ∧ (op k).testBit v = true ∧ cSt sp sa v s t e ∧ c = f ((k + 1) * 8 + t) + e) (bhV sp sa op k f i (k * 8 + s))
  | 0, _ => by
    show mnm _ (mf f k 6 (k * 8 + s))
    rw [mf_at hs]
    exact ⟨Or.inl rfl, fun c g => g.elim (fun g => by rw [g]; exact Nat.le_refl _) (fun ⟨v, t, e, h, _⟩ => by omega)⟩
  | i + 1, hi => by
    have ih := bhV_mn (sp := sp) (sa := sa) (op := op) (f := f) (k := k) hs hsa i (by omega)
    rcases hb : (op k).testBit i with _ | _
    · rw [← bhV_f hb]
      refine mnm_cg (fun c => ?_) ih
      constructor
      · rintro (g | ⟨v, t, e, g1, g⟩)
        · exact Or.inl g
        · exact Or.inr ⟨v, t, e, by omega, g⟩
      · rintro (g | ⟨v, t, e, g1, g2, g⟩)
        · exact Or.inl g
        · by_cases q : v = i
          · subst q; rw [hb] at g2; cases g2
          · exact Or.inr ⟨v, t, e, by omega, g2, g⟩
    · rw [← bhV_t hb]
      have h := gbF_mn (sp := sp) (f := bhV sp sa op k f i) (k := k) (lo := sa i) (s := s) (by omega) (sa (i + 1) - sa i)
      have hm := hsa i (by omega)
      refine ⟨?_, fun c g => ?_⟩
      · rcases h.1 with g | ⟨j, g1, g2, g3, g4⟩
        · rcases ih.1 with q | ⟨v, t, e, q1, q⟩
          · exact Or.inl (g.trans q)
          · exact Or.inr ⟨v, t, e, by omega, q.1, q.2.1, g.trans q.2.2⟩
        · refine Or.inr ⟨i, dgt (sp j) 1, sp j / 2 ^ 6, by omega, hb, ⟨j, g1, by omega, g3, rfl, rfl⟩, ?_⟩
          rw [g4, bhV_row]
          have := dgt_lt (sp j) 1
          omega
      · rcases g with g | ⟨v, t, e, g1, g2, ⟨j, j1, j2, j3, j4, j5⟩, g4⟩
        · exact Nat.le_trans (h.2 _ (Or.inl rfl)) (ih.2 c (Or.inl g))
        · by_cases q : v = i
          · subst q
            refine h.2 c (Or.inr ⟨j, j1, by omega, j3, ?_⟩)
            rw [j4, j5, bhV_row]
            · exact g4
            · have := dgt_lt (sp j) 1
              omega
          · exact Nat.le_trans (h.2 _ (Or.inl rfl)) (ih.2 c (Or.inr ⟨v, t, e, by omega, g2, ⟨j, j1, j2, j3, j4, j5⟩, g4⟩))
/-- the ways from place k and state s to an end, by open values -/
def wyE (S : Nat → Nat → Nat → Nat → Prop) (op : Nat → Nat) (en d k s c : Nat) : Prop := ∃ w q, opn op w k d ∧ q < 6 ∧ en.testBit q = true ∧ pth S w d k s q c
def stOk (S : Nat → Nat → Nat → Nat → Prop) : Prop := ∀ v s t c, S v s t c → s < 6 ∧ t < 6 ∧ c ≤ 100
theorem wyE_s {S : Nat → Nat → Nat → Nat → Prop} {op : Nat → Nat} {en d k s c : Nat} : wyE S op en (d + 1) k s c ↔ ∃ v t e c2, v < 6 ∧ (op k).testBit v = true ∧ S v s t e ∧ wyE S op en d (k + 1) t c2 ∧ c = c2 + e := by
  constructor
  · rintro ⟨w, q, ho, hq, he, t, c1, c2, h1, h2, h3⟩
    have o := ho k (Nat.le_refl _) (by omega)
    exact ⟨w k, t, c1, c2, o.1, o.2, h1, ⟨w, q, fun j g1 g2 => ho j (by omega) (by omega), hq, he, h2⟩, by omega⟩
  · rintro ⟨v, t, e, c2, hv, ho, hS, ⟨w, q, hw, hq, he, hp⟩, hc⟩
    refine ⟨va_up w k v, q, fun j g1 g2 => ?_, hq, he, t, e, c2, by rw [va_up_self]; exact hS, pth_dep (fun j g1 g2 => (va_up_ne _ _ (by omega)).symm) hp, by omega⟩
    by_cases e : j = k
    · subst e; rw [va_up_self]; exact ⟨hv, ho⟩
    · rw [va_up_ne _ _ e]; exact hw j (by omega) (by omega)
theorem endF_at {bh : Nat → Nat} {n en s : Nat} (hs : s < 6) : endF bh n en 6 (n * 8 + s) = if en.testBit s = true then 0 else 1000000 := by
  unfold endF
  rw [if_pos (by omega), Nat.add_sub_cancel_left]
theorem bhP_fst {sp sa op bh : Nat → Nat} {en n : Nat} (hsa : ∀ j, j < 6 → sa j ≤ sa (j + 1)) (hS : stOk (cSt sp sa)) : ∀ i, i ≤ n → ∀ d s, d ≤ i → s < 6 → fst6 (wyE (cSt sp sa) op en d (n - d) s) (bhP sp sa op en n bh i ((n - d) * 8 + s))
  | 0, _, d, s, hd, hs => by
    have e : d = 0 := by omega
    subst e
    show fst6 _ (endF bh n en 6 (n * 8 + s))
    rw [endF_at hs]
    by_cases q : en.testBit s = true
    · rw [if_pos q]
      exact ⟨fun c _ => Nat.zero_le _, fun _ => ⟨fun _ => 0, s, fun j g1 g2 => by omega, hs, q, rfl, rfl⟩⟩
    · rw [if_neg q]
      refine ⟨?_, fun h => absurd h (by decide)⟩
      rintro c ⟨w, t, -, -, ht, h1, h2⟩
      subst h1
      exact absurd ht q
  | i + 1, hi, d, s, hd, hs => by
    have ih := bhP_fst (sp := sp) (sa := sa) (op := op) (bh := bh) (en := en) (n := n) hsa hS i (by omega)
    show fst6 _ (bhV sp sa op (n - 1 - i) (bhP sp sa op en n bh i) 6 ((n - d) * 8 + s))
    by_cases e : d = i + 1
    · subst e
      have hk : n - (i + 1) = n - 1 - i := by omega
      have hk1 : n - 1 - i + 1 = n - i := by omega
      rw [hk]
      have h := bhV_mn (sp := sp) (sa := sa) (op := op) (f := bhP sp sa op en n bh i) (k := n - 1 - i) (s := s) hs hsa 6 (by decide)
      rw [hk1] at h
      refine ⟨fun c g => ?_, fun g => ?_⟩
      · rw [wyE_s] at g
        obtain ⟨v, t, e, c2, hv, ho, hSt, hy, hc⟩ := g
        rw [hk1] at hy
        have ht := (hS _ _ _ _ hSt).2.1
        have := (ih i t (Nat.le_refl _) ht).1 c2 hy
        have := h.2 _ (Or.inr ⟨v, t, e, hv, ho, hSt, rfl⟩)
        omega
      · rw [wyE_s, hk1]
        rcases h.1 with q | ⟨v, t, e, q1, q2, q3, q4⟩
        · omega
        · have ht := (hS _ _ _ _ q3).2.1
          exact ⟨v, t, e, _, q1, q2, q3, (ih i t (Nat.le_refl _) ht).2 (by omega), q4⟩
    · rw [bhV_row _ _ (by omega)]
      exact ih d s (by omega) hs
theorem bh_least {sp sa op bh : Nat → Nat} {en n : Nat} (hsa : ∀ j, j < 6 → sa j ≤ sa (j + 1)) (hS : stOk (cSt sp sa)) : fst6 (wyE (cSt sp sa) op en n 0 0) (bhP sp sa op en n bh n 0) := by
  have h := bhP_fst (sp := sp) (sa := sa) (op := op) (bh := bh) (en := en) (n := n) hsa hS n (Nat.le_refl _) n 0 (Nat.le_refl _) (by decide)
  rw [Nat.sub_self] at h
  exact h
theorem fst_le {P : Nat → Prop} {x mo : Nat} (h : fst6 P x) (hm : mo ≤ 1000) : x ≤ mo ↔ ∃ c, c ≤ mo ∧ P c :=
  ⟨fun g => ⟨x, g, h.2 (by omega)⟩, fun ⟨c, g, q⟩ => Nat.le_trans (h.1 c q) g⟩
