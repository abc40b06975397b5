theorem pre_at {S : Nat → Nat → Nat → Nat → Prop} {op w : Nat → Nat} {en mo n k v : Nat} (hk : k < n) : (∃ s t e c1 c2, S v s t e ∧ pth S w k 0 0 s c1 ∧ wyE S op en (n - (k + 1)) (k + 1) t c2 ∧ c1 + e + c2 ≤ mo) ↔ ∃ u, opn op u (k + 1) (n - (k + 1)) ∧ (∀ j, j < k + 1 → u j = va_up w k v j) ∧ macA S en mo n u := by
  have hn : n = k + (1 + (n - (k + 1))) := by omega
  constructor
  · rintro ⟨s, t, e, c1, c2, hS, p1, ⟨w2, q, o2, hq, he, p2⟩, hc⟩
    refine ⟨fun i => if i < k + 1 then va_up w k v i else w2 i, fun i g1 g2 => ?_, fun j hj => ?_, c1 + e + c2, hc, q, hq, he, ?_⟩
    · show (if i < k + 1 then va_up w k v i else w2 i) < 6 ∧ (op i).testBit (if i < k + 1 then va_up w k v i else w2 i) = true
      rw [if_neg (by omega)]; exact o2 i g1 g2
    · show (if j < k + 1 then va_up w k v j else w2 j) = _
      rw [if_pos hj]
    · rw [hn]
      refine pth_app.mpr ⟨s, c1, e + c2, pth_dep (fun i g1 g2 => ?_) p1, pth_app.mpr ⟨t, e, c2, ?_, pth_dep (fun i g1 g2 => ?_) (by rw [Nat.zero_add]; exact p2), rfl⟩, by omega⟩
      · show w i = (if i < k + 1 then va_up w k v i else w2 i)
        rw [if_pos (by omega), va_up_ne _ _ (by omega)]
      · rw [Nat.zero_add, pth_1]
        show S (if k < k + 1 then va_up w k v k else w2 k) s t e
        rw [if_pos (by omega), va_up_self]
        exact hS
      · show w2 i = (if i < k + 1 then va_up w k v i else w2 i)
        rw [if_neg (by omega)]
  · rintro ⟨u, hu, he2, c, hc, q, hq, he, hp⟩
    rw [hn] at hp
    obtain ⟨s, c1, c3, p1, p2, p3⟩ := pth_app.mp hp
    obtain ⟨t, e, c2, p4, p5, p6⟩ := pth_app.mp p2
    rw [Nat.zero_add] at p4 p5
    rw [pth_1, he2 k (by omega), va_up_self] at p4
    exact ⟨s, t, e, c1, c2, p4, pth_dep (fun j g1 g2 => by rw [he2 j (by omega), va_up_ne _ _ (by omega)]) p1, ⟨u, q, hu, hq, he, p5⟩, by omega⟩
theorem mac_dep {S : Nat → Nat → Nat → Nat → Prop} {en mo n : Nat} {w u : Nat → Nat} (h : ∀ j, j < n → w j = u j) (g : macA S en mo n w) : macA S en mo n u := by
  obtain ⟨c, hc, q, hq, he, hp⟩ := g
  exact ⟨c, hc, q, hq, he, pth_dep (fun j _ hj => h j (by omega)) hp⟩
theorem mw_cR {sp sa op BH : Nat → Nat} {en mo n : Nat} {al : (Nat → Nat) → Bool} (hm : mo ≤ 1000) (hsa : ∀ j, j < 6 → sa j ≤ sa (j + 1)) (hS : stOk (cSt sp sa)) (hal : ∀ w : Nat → Nat, (∀ j, j < n → w j < 6) → (al w = true ↔ macA (cSt sp sa) en mo n w)) (hB : ∀ k, k < n → ∀ t, t < 6 → fst6 (wyE (cSt sp sa) op en (n - (k + 1)) (k + 1) t) (BH ((k + 1) * 8 + t))) : ∀ d k, k + d = n → ∀ ah w : Nat → Nat, (∀ j, j < k → w j < 6) → (∀ s, s < 6 → fst6 (fun c => pth (cSt sp sa) w k 0 0 s c) (ah (k * 8 + s))) → (d = 0 → al w = true) → (mwF sp sa op BH mo d k ah).1 = cR op d k (fun u => if al u = true then 1 else 0) w ∧ ∀ j, j < (k + 1) * 8 → (mwF sp sa op BH mo d k ah).2 j = ah j
  | 0, k, e, ah, w, hw, hA, h0 => by
    refine ⟨?_, fun _ _ => rfl⟩
    show 1 = (if al w = true then 1 else 0)
    rw [if_pos (h0 rfl)]
  | d + 1, k, e, ah, w, hw, hA, h0 => by
    have key : ∀ i, i ≤ 6 → (mwV sp sa op BH mo d k ah i).1 = sm (fun v => if (op k).testBit v = true then cR op d (k + 1) (fun u => if al u = true then 1 else 0) (va_up w k v) else 0) i ∧ ∀ j, j < (k + 1) * 8 → (mwV sp sa op BH mo d k ah i).2 j = ah j := by
      intro i
      induction i with
      | zero => intro _; exact ⟨rfl, fun _ _ => rfl⟩
      | succ i ih =>
        intro hi
        obtain ⟨ih1, ih2⟩ := ih (by omega)
        show _ = sm _ i + (if (op k).testBit i = true then cR op d (k + 1) _ (va_up w k i) else 0) ∧ _
        rcases hb : (op k).testBit i with _ | _
        · rw [mwV_f hb, if_neg (by decide)]
          exact ⟨ih1, ih2⟩
        · rw [if_pos rfl]
          have hf : ∀ s, s < 6 → mf (mwV sp sa op BH mo d k ah i).2 (k + 1) 6 (k * 8 + s) = ah (k * 8 + s) := fun s hs => by
            rw [mf_row (by omega) (by decide), ih2 _ (by omega)]
          have hAf : ∀ s, s < 6 → fst6 (fun c => pth (cSt sp sa) w k 0 0 s c) (mf (mwV sp sa op BH mo d k ah i).2 (k + 1) 6 (k * 8 + s)) := fun s hs => by rw [hf s hs]; exact hA s hs
          have hwh := wh_le (mo := mo) (v := i) (A := fun s c => pth (cSt sp sa) w k 0 0 s c) hm (hsa i (by omega)) hS hAf (hB k (by omega))
          rw [pre_at (by omega)] at hwh
          have hrow : ∀ j, j < (k + 1) * 8 → (gaF sp BH k (mf (mwV sp sa op BH mo d k ah i).2 (k + 1) 6) (sa i) (sa (i + 1) - sa i)).1 j = ah j := fun j hj => by
            rw [gaF_row _ _ (by omega), mf_row (by omega) (by decide), ih2 j hj]
          rcases Nat.lt_or_ge mo (gaF sp BH k (mf (mwV sp sa op BH mo d k ah i).2 (k + 1) 6) (sa i) (sa (i + 1) - sa i)).2 with g | g
          · rw [mwV_a hb g]
            refine ⟨?_, hrow⟩
            show (mwV sp sa op BH mo d k ah i).1 = _
            rw [ih1]
            have hz : cR op d (k + 1) (fun u => if al u = true then 1 else 0) (va_up w k i) = 0 := by
              refine (cR_cgo (G := fun _ => 0) d (k + 1) (va_up w k i) (fun u hu he => ?_)).trans (cR_0 d (k + 1) _)
              show (if al u = true then 1 else 0) = 0
              rw [if_neg]
              intro q
              have hu6 : ∀ j, j < n → u j < 6 := fun j hj => by
                rcases Nat.lt_or_ge j (k + 1) with a | a
                · rw [he j a]
                  unfold va_up
                  split
                  · omega
                  · exact hw j (by omega)
                · exact (hu j a (by omega)).1
              exact absurd (hwh.mpr ⟨u, by rw [show n - (k + 1) = d by omega]; exact hu, he, (hal u hu6).mp q⟩) (by omega)
            omega
          · rw [mwV_b hb g]
            obtain ⟨u, hu, he, hma⟩ := hwh.mp g
            have hw2 : ∀ j, j < k + 1 → va_up w k i j < 6 := fun j hj => by
              unfold va_up
              split
              · omega
              · exact hw j (by omega)
            have hr := mw_cR hm hsa hS hal hB d (k + 1) (by omega) (gaF sp BH k (mf (mwV sp sa op BH mo d k ah i).2 (k + 1) 6) (sa i) (sa (i + 1) - sa i)).1 (va_up w k i) hw2 (fun s hs => by
              refine fst6_cg (fun c => ?_) (ga_fst (hsa i (by omega)) hS hAf (fun s hs => mf_at hs) s hs)
              constructor
              · rintro ⟨f, e2, c1, q1, q2, q3⟩
                refine pth_app.mpr ⟨f, c1, e2, pth_dep (fun j g1 g2 => (va_up_ne _ _ (by omega)).symm) q2, ?_, q3⟩
                rw [Nat.zero_add, pth_1, va_up_self]; exact q1
              · intro q
                obtain ⟨f, c1, e2, q1, q2, q3⟩ := pth_app.mp q
                rw [Nat.zero_add, pth_1, va_up_self] at q2
                exact ⟨f, e2, c1, q2, pth_dep (fun j g1 g2 => va_up_ne _ _ (by omega)) q1, q3⟩) (fun hd => by
              refine (hal _ (fun j hj => hw2 j (by omega))).mpr (mac_dep (fun j hj => he j (by omega)) hma))
            refine ⟨?_, fun j hj => ?_⟩
            · show (mwV sp sa op BH mo d k ah i).1 + (mwF sp sa op BH mo d (k + 1) _).1 = _
              rw [hr.1, ih1]
            · show (mwF sp sa op BH mo d (k + 1) _).2 j = _
              rw [hr.2 j (by omega), hrow j hj]
    exact key 6 (Nat.le_refl _)
/-- the machine's count of open words -/
theorem mac_ct {sp sa op bh ah : Nat → Nat} {en mo n : Nat} {al : (Nat → Nat) → Bool} (hn : 1 ≤ n) (hm : mo ≤ 1000) (hsa : ∀ j, j < 6 → sa j ≤ sa (j + 1)) (hS : stOk (cSt sp sa)) (hal : ∀ w : Nat → Nat, (∀ j, j < n → w j < 6) → (al w = true ↔ macA (cSt sp sa) en mo n w)) (w : Nat → Nat) : (if bhP sp sa op en n bh n 0 ≤ mo then (mwF sp sa op (bhP sp sa op en n bh n) mo n 0 (va_up (mf ah 0 6) 0 0)).1 else 0) = cR op n 0 (fun u => if al u = true then 1 else 0) w := by
  by_cases h : bhP sp sa op en n bh n 0 ≤ mo
  · rw [if_pos h]
    refine (mw_cR hm hsa hS hal (fun k hk => bh_row hk hsa hS) n 0 (by omega) _ w (fun j hj => absurd hj (Nat.not_lt_zero _)) (fun s hs => ?_) (fun e => by omega)).1
    refine fst6_cg (fun c => ?_) (ah_0 (S := cSt sp sa) (op := op) s hs)
    exact ⟨fun ⟨u, _, q⟩ => q, fun q => ⟨w, fun j g1 g2 => by omega, q⟩⟩
  · rw [if_neg h]
    refine ((cR_cgo (G := fun _ => 0) n 0 w (fun u hu _ => ?_)).trans (cR_0 n 0 _)).symm
    show (if al u = true then 1 else 0) = 0
    rw [if_neg]
    intro q
    have := (fst_le (bh_least (bh := bh) (op := op) (en := en) (n := n) hsa hS) hm).mpr ((mac_exW hal).mpr ⟨u, opn_0.mp hu, q⟩)
    omega
theorem ls_lst {b : Nat} {cO : (Nat → Nat) → Option Nat} : ∀ (L : List (Nat → Nat)) (o : Option Nat) (P : Nat → Prop), lst P o → lst (fun c => P c ∨ c ≤ b ∧ ∃ w, w ∈ L ∧ cO w = some c) (L.foldl (lsS b cO) o)
  | [], o, P, h => lst_cg (fun c => ⟨Or.inl, fun g => g.elim id (fun ⟨_, w, hw, _⟩ => by cases hw)⟩) h
  | w :: L, o, P, h => by
    rw [List.foldl_cons]
    have old : (∀ c, c ≤ b → ¬ cO w = some c) → lst (fun c => P c ∨ c ≤ b ∧ ∃ u, u ∈ w :: L ∧ cO u = some c) (L.foldl (lsS b cO) o) := fun hn => by
      refine lst_cg (fun c => ?_) (ls_lst L o P h)
      constructor
      · rintro (g | ⟨g1, u, g2, g3⟩)
        · exact Or.inl g
        · exact Or.inr ⟨g1, u, List.mem_cons_of_mem _ g2, g3⟩
      · rintro (g | ⟨g1, u, g2, g3⟩)
        · exact Or.inl g
        · rcases List.mem_cons.mp g2 with q | q
          · subst q; exact absurd g3 (hn c g1)
          · exact Or.inr ⟨g1, u, q, g3⟩
    cases hc : cO w with
    | none =>
      rw [lsS_0 hc]
      exact old (fun c _ q => by rw [hc] at q; cases q)
    | some y =>
      rcases Nat.lt_or_ge b y with g | g
      · rw [lsS_1 hc g]
        exact old (fun c hb q => by rw [hc] at q; cases q; omega)
      · rw [lsS_2 hc g]
        refine lst_cg (fun c => ?_) (ls_lst L _ _ (lst_omn (y := y) h))
        constructor
        · rintro ((q | q) | ⟨g1, u, g2, g3⟩)
          · exact Or.inl q
          · subst q; exact Or.inr ⟨g, w, List.mem_cons_self, hc⟩
          · exact Or.inr ⟨g1, u, List.mem_cons_of_mem _ g2, g3⟩
        · rintro (q | ⟨g1, u, g2, g3⟩)
          · exact Or.inl (Or.inl q)
          · rcases List.mem_cons.mp g2 with q | q
            · subst q
              rw [hc] at g3
              cases g3
              exact Or.inl (Or.inr rfl)
            · exact Or.inr ⟨g1, u, q, g3⟩
theorem lsF_lst {b : Nat} {cO : (Nat → Nat) → Option Nat} {L : List (Nat → Nat)} : lst (fun c => c ≤ b ∧ ∃ w, w ∈ L ∧ cO w = some c) (lsF b cO L) :=
  lst_cg (fun _ => ⟨fun g => g.elim False.elim id, Or.inr⟩) (ls_lst L none (fun _ => False) lst_none)
theorem ls_ways {b : Nat} {cO : (Nat → Nat) → Option Nat} {L : List (Nat → Nat)} {Q : (Nat → Nat) → Nat → Prop} (h : ∀ w, w ∈ L → lst (Q w) (cO w)) : lst (fun c => c ≤ b ∧ ∃ w, w ∈ L ∧ Q w c) (lsF b cO L) := by
  have g := lsF_lst (b := b) (cO := cO) (L := L)
  refine ⟨fun x e => ?_, fun e c q => ?_⟩
  · obtain ⟨⟨h1, w, h2, h3⟩, h4⟩ := g.1 x e
    refine ⟨⟨h1, w, h2, ((h w h2).1 x h3).1⟩, ?_⟩
    rintro c ⟨q1, u, q2, q3⟩
    cases hc : cO u with
    | none => exact absurd q3 ((h u q2).2 hc c)
    | some z =>
      have z1 := ((h u q2).1 z hc).2 c q3
      have := h4 z ⟨by omega, u, q2, hc⟩
      omega
  · obtain ⟨q1, u, q2, q3⟩ := q
    cases hc : cO u with
    | none => exact absurd q3 ((h u q2).2 hc c)
    | some z =>
      have z1 := ((h u q2).1 z hc).2 c q3
      exact g.2 e z ⟨by omega, u, q2, hc⟩
/-- the least cost, both ways -/
theorem least_eq {x0 mo : Nat} {P : Nat → Prop} {o : Option Nat} (hm : mo ≤ 1000) (h : fst6 P x0) (g : lst (fun c => c ≤ mo ∧ P c) o) : lcI x0 mo = oI o := by
  unfold lcI
  cases o with
  | none =>
    rw [if_neg]
    · rfl
    · intro q
      exact g.2 rfl x0 ⟨q, h.2 (by omega)⟩
  | some y =>
    obtain ⟨⟨h1, h3⟩, h5⟩ := g.1 y rfl
    have e1 := h.1 y h3
    have e2 := h5 x0 ⟨by omega, h.2 (by omega)⟩
    rw [if_pos (by omega), show x0 = y by omega]
    rfl
/-- the program's steps are the model's -/
def macI (sp sa sf sv so sc : Nat → Nat) (b m : Nat) : Prop := (∀ v s t c, v < 6 → (cSt sp sa v s t c ↔ mSt sf sv so sc b m v s t c)) ∧ sa 0 = 0 ∧ sa 6 = m ∧ ∀ j, j < 6 → sa j ≤ sa (j + 1)
theorem macI_0 {sf sv so sc : Nat → Nat} {b : Nat} : macI (fun _ => 0) (fun _ => 0) sf sv so sc b 0 := ⟨fun _ _ _ _ _ => ⟨fun ⟨_, _, h, _⟩ => absurd h (Nat.not_lt_zero _), fun ⟨_, h, _⟩ => absurd h (Nat.not_lt_zero _)⟩, rfl, rfl, fun _ _ => Nat.le_refl _⟩
theorem sa_mono {sa : Nat → Nat} (h : ∀ j, j < 6 → sa j ≤ sa (j + 1)) {i : Nat} : ∀ {j : Nat}, i ≤ j → j ≤ 6 → sa i ≤ sa j
  | 0, h1, _ => by rw [show i = 0 by omega]; exact Nat.le_refl _
  | j + 1, h1, h2 => by
    rcases Nat.lt_or_ge j i with g | g
    · rw [show i = j + 1 by omega]; exact Nat.le_refl _
    · exact Nat.le_trans (sa_mono h g (by omega)) (h j (by omega))
theorem pk3 : ∀ f, f < 6 → ∀ t, t < 6 → ∀ c, c < 101 → dgt ((f ||| t * 2 ^ 3) ||| c * 2 ^ 6) 0 = f ∧ dgt ((f ||| t * 2 ^ 3) ||| c * 2 ^ 6) 1 = t ∧ ((f ||| t * 2 ^ 3) ||| c * 2 ^ 6) / 2 ^ 6 = c ∧ ((f ||| t * 2 ^ 3) ||| c * 2 ^ 6) < 8192 := by decide +kernel
theorem macI_s {sp sa sf sv so sc : Nat → Nat} {b m f v t c : Nat} (h : macI sp sa sf sv so sc b m) (hv : v < 6) (hf : f < 6) (ht : t < 6) (hc : c < 101) : macI (insF sp (sa (v + 1)) (sa 6) ((f ||| t * 2 ^ 3) ||| c * 2 ^ 6)) (saI sa v 7) (va_up sf (b + m) f) (va_up sv (b + m) v) (va_up so (b + m) t) (va_up sc (b + m) c) b (m + 1) := by
  obtain ⟨h1, h0, h6, hm⟩ := h
  obtain ⟨k0, k1, k2, -⟩ := pk3 f hf t ht c hc
  have mono := fun {i j : Nat} (a : i ≤ j) (b : j ≤ 6) => sa_mono hm a b
  refine ⟨fun v2 s2 t2 c2 hv2 => ?_, ?_, ?_, fun j hj => ?_⟩
  · have hM : mSt (va_up sf (b + m) f) (va_up sv (b + m) v) (va_up so (b + m) t) (va_up sc (b + m) c) b (m + 1) v2 s2 t2 c2 ↔ mSt sf sv so sc b m v2 s2 t2 c2 ∨ (v = v2 ∧ f = s2 ∧ t = t2 ∧ c = c2) := by
      constructor
      · rintro ⟨i, hi, g1, g2, g3, g4⟩
        by_cases e : i = m
        · subst e
          rw [va_up_self] at g1 g2 g3 g4
          exact Or.inr ⟨g1, g2, g3, g4⟩
        · rw [va_up_ne _ _ (by omega)] at g1 g2 g3 g4
          exact Or.inl ⟨i, by omega, g1, g2, g3, g4⟩
      · rintro (⟨i, hi, g1, g2, g3, g4⟩ | ⟨g1, g2, g3, g4⟩)
        · exact ⟨i, by omega, by rw [va_up_ne _ _ (by omega)]; exact g1, by rw [va_up_ne _ _ (by omega)]; exact g2, by rw [va_up_ne _ _ (by omega)]; exact g3, by rw [va_up_ne _ _ (by omega)]; exact g4⟩
        · exact ⟨m, by omega, by rw [va_up_self]; exact g1, by rw [va_up_self]; exact g2, by rw [va_up_self]; exact g3, by rw [va_up_self]; exact g4⟩
    rw [hM, ← h1 v2 s2 t2 c2 hv2]
    have m1 := mono (i := v + 1) (j := 6) (by omega) (by omega)
    have m2 := mono (i := v2 + 1) (j := 6) (by omega) (by omega)
    have m3 := hm v2 hv2
    have mv := hm v hv
    have lo : ∀ j, j < sa (v + 1) → insF sp (sa (v + 1)) (sa 6) ((f ||| t * 2 ^ 3) ||| c * 2 ^ 6) j = sp j := fun j hj => by
      unfold insF
      rw [va_up_ne _ _ (by omega)]
      unfold shF
      rw [if_neg (by omega)]
    have hi : ∀ j, sa (v + 1) < j → j ≤ sa 6 → insF sp (sa (v + 1)) (sa 6) ((f ||| t * 2 ^ 3) ||| c * 2 ^ 6) j = sp (j - 1) := fun j h1 h2 => by
      unfold insF
      rw [va_up_ne _ _ (by omega)]
      unfold shF
      rw [if_pos ⟨h1, h2⟩]
    have at0 : insF sp (sa (v + 1)) (sa 6) ((f ||| t * 2 ^ 3) ||| c * 2 ^ 6) (sa (v + 1)) = ((f ||| t * 2 ^ 3) ||| c * 2 ^ 6) := by
      unfold insF
      rw [va_up_self]
    unfold cSt
    rcases Nat.lt_trichotomy v2 v with q | q | q
    · have e1 : saI sa v 7 v2 = sa v2 := by unfold saI; rw [if_neg (by omega)]
      have e2 : saI sa v 7 (v2 + 1) = sa (v2 + 1) := by unfold saI; rw [if_neg (by omega)]
      have m4 := mono (i := v2 + 1) (j := v + 1) (by omega) (by omega)
      rw [e1, e2]
      constructor
      · rintro ⟨i, g1, g2, g3⟩
        rw [lo i (by omega)] at g3
        exact Or.inl ⟨i, g1, g2, g3⟩
      · rintro (⟨i, g1, g2, g3⟩ | ⟨g, -⟩)
        · exact ⟨i, g1, g2, by rw [lo i (by omega)]; exact g3⟩
        · omega
    · subst q
      have e1 : saI sa v2 7 v2 = sa v2 := by unfold saI; rw [if_neg (by omega)]
      have e2 : saI sa v2 7 (v2 + 1) = sa (v2 + 1) + 1 := by unfold saI; rw [if_pos (by omega)]
      rw [e1, e2]
      constructor
      · rintro ⟨i, g1, g2, g3⟩
        by_cases e : i = sa (v2 + 1)
        · subst e
          rw [at0, k0, k1, k2] at g3
          exact Or.inr ⟨rfl, g3⟩
        · rw [lo i (by omega)] at g3
          exact Or.inl ⟨i, g1, by omega, g3⟩
      · rintro (⟨i, g1, g2, g3⟩ | ⟨-, g3⟩)
        · exact ⟨i, g1, by omega, by rw [lo i (by omega)]; exact g3⟩
        · exact ⟨sa (v2 + 1), mv, by omega, by rw [at0, k0, k1, k2]; exact g3⟩
    · have e1 : saI sa v 7 v2 = sa v2 + 1 := by unfold saI; rw [if_pos (by omega)]
      have e2 : saI sa v 7 (v2 + 1) = sa (v2 + 1) + 1 := by unfold saI; rw [if_pos (by omega)]
      have m4 := mono (i := v + 1) (j := v2) (by omega) (by omega)
      rw [e1, e2]
      constructor
      · rintro ⟨i, g1, g2, g3⟩
        rw [hi i (by omega) (by omega)] at g3
        exact Or.inl ⟨i - 1, by omega, by omega, g3⟩
      · rintro (⟨i, g1, g2, g3⟩ | ⟨g, -⟩)
        · exact ⟨i + 1, by omega, by omega, by rw [hi (i + 1) (by omega) (by omega)]; exact g3⟩
        · omega
  · unfold saI; rw [if_neg (by omega)]; exact h0
  · rw [saI_6 hv, h6]
  · have := hm j hj
    unfold saI
    (repeat' split) <;> omega
