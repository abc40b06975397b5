/-- alike for all names below nm -/
def eqS (nm : Nat) (σ τ : RS) : Prop := (∀ x, x < nm → σ.1 x = τ.1 x) ∧ (∀ q, q < 6 * nm → σ.2.1 q = τ.2.1 q) ∧ (∀ q, q < 6 * nm → σ.2.2.1 q = τ.2.2.1 q) ∧ σ.2.2.2 = τ.2.2.2
theorem tk1_eq {ro so fo : Nat → Nat} {nm c rd k : Nat} {σ τ : RS} (h : eqS nm σ τ) (hr : ro (6 * c + k) = so (6 * c + k)) (hx : ro (6 * c + k) < nm) : eqS nm (tk1 ro fo c rd k σ) (tk1 so fo c rd k τ) := by
  obtain ⟨h1, h2, h3, h4⟩ := h
  have e := h1 _ hx
  unfold tk1
  rw [← hr, ← e]
  refine ⟨fun x hx2 => ?_, fun q hq => ?_, fun q hq => ?_, ?_⟩
  · show va_up σ.1 _ _ x = va_up τ.1 _ _ x
    unfold va_up
    split
    · rfl
    · exact h1 x hx2
  · show mkS σ.2.1 _ _ _ _ q = mkS τ.2.1 _ _ _ _ q
    unfold mkS
    split
    · rfl
    · exact h2 q hq
  · show mkS σ.2.2.1 _ _ _ _ q = mkS τ.2.2.1 _ _ _ _ q
    unfold mkS
    split
    · rfl
    · exact h3 q hq
  · show σ.2.2.2 + _ = τ.2.2.2 + _
    rw [h4]
theorem tkP_eq {ro so fo : Nat → Nat} {nm c rd n : Nat} {σ τ : RS} (h : eqS nm σ τ) (hr : ∀ j, j < n → ro (6 * c + j) = so (6 * c + j)) (hx : ∀ j, j < n → ro (6 * c + j) < nm) : ∀ i, i ≤ n → eqS nm (tkP ro fo c rd σ i) (tkP so fo c rd τ i)
  | 0, _ => h
  | i + 1, hi => by
    rw [tkP_s, tkP_s]
    exact tk1_eq (tkP_eq h hr hx i (by omega)) (hr i (by omega)) (hx i (by omega))
theorem prodL_cg {dm em ro so : Nat → Nat} {k : Nat} : ∀ i w, (∀ j, j < i → dm (ro (6 * k + j)) = em (so (6 * k + j))) → prodL dm ro k i w = prodL em so k i w
  | 0, _, _ => rfl
  | i + 1, w, h => by
    show (vsF (dm (ro (6 * k + i))) 0).flatMap _ = (vsF (em (so (6 * k + i))) 0).flatMap _
    rw [h i (by omega)]
    congr 1
    funext v
    exact prodL_cg i (va_up w i v) (fun j hj => h j (by omega))
/-- two families of constraints that are alike -/
def famE (nm cs : Nat) (AL BL : Nat → (Nat → Nat) → Bool) (wi vi ro so : Nat → Nat) : Prop := ∀ c, c < cs → wi c = vi c ∧ (∀ j, j < wi c → ro (6 * c + j) = so (6 * c + j) ∧ ro (6 * c + j) < nm) ∧ ∀ w : Nat → Nat, (∀ j, j < wi c → w j < 6) → AL c w = BL c w
theorem any_cgm {L : List (Nat → Nat)} {f g : (Nat → Nat) → Bool} (h : ∀ w, w ∈ L → f w = g w) : L.any f = L.any g := by
  induction L with
  | nil => rfl
  | cons w L ih =>
    rw [List.any_cons, List.any_cons, h w List.mem_cons_self, ih (fun u hu => h u (List.mem_cons_of_mem _ hu))]
theorem op_mem {wi ro dm w : Nat → Nat} {c : Nat} (h : w ∈ opL wi ro dm c) : ∀ j, j < wi c → w j < 6 := fun j hj => (((mem_prod (wi c) (fun _ => 0) w).mp h).1 j hj).1
theorem tnF_eq {AL BL : Nat → (Nat → Nat) → Bool} {wi vi ro so : Nat → Nat} {nm cs rd c : Nat} {s t : RS × Option Nat} (hf : famE nm cs AL BL wi vi ro so) (hc : c < cs) (h : eqS nm s.1 t.1) (h2 : s.2 = t.2) : eqS nm (tnF AL wi ro rd c s).1 (tnF BL vi so rd c t).1 ∧ (tnF AL wi ro rd c s).2 = (tnF BL vi so rd c t).2 := by
  obtain ⟨e1, e2, e3⟩ := hf c hc
  have eL : opL wi ro s.1.1 c = opL vi so t.1.1 c := by
    unfold opL
    rw [← e1]
    exact prodL_cg _ _ (fun j hj => by rw [← (e2 j hj).1]; exact h.1 _ (e2 j hj).2)
  have eA : (opL wi ro s.1.1 c).any (AL c) = (opL vi so t.1.1 c).any (BL c) := by
    rw [← eL]
    exact any_cgm (fun w hw => e3 w (op_mem hw))
  have eF : foM (AL c) (opL wi ro s.1.1 c) = foM (BL c) (opL vi so t.1.1 c) := by
    rw [← eL]
    funext j
    unfold foM
    exact mkM_cg (fun v _ => any_cgm (fun w hw => by rw [e3 w (op_mem hw)]))
  unfold tnF
  rw [← h2]
  by_cases q : s.2.isSome = true
  · rw [if_pos q, if_pos q]; exact ⟨h, h2⟩
  · rw [if_neg q, if_neg q, ← eA]
    by_cases r : (opL wi ro s.1.1 c).any (AL c) = true
    · rw [if_pos r, if_pos r, eF, ← e1]
      exact ⟨tkP_eq h (fun j hj => (e2 j hj).1) (fun j hj => (e2 j hj).2) _ (Nat.le_refl _), rfl⟩
    · rw [if_neg r, if_neg r]; exact ⟨h, rfl⟩
theorem rdF_eq {AL BL : Nat → (Nat → Nat) → Bool} {wi vi ro so : Nat → Nat} {nm cs rd : Nat} {σ τ : RS} (hf : famE nm cs AL BL wi vi ro so) (h : eqS nm σ τ) : ∀ i, i ≤ cs → eqS nm (rdF AL wi ro rd σ i).1 (rdF BL vi so rd τ i).1 ∧ (rdF AL wi ro rd σ i).2 = (rdF BL vi so rd τ i).2
  | 0, _ => ⟨h, rfl⟩
  | i + 1, hi => by
    rw [rdF_s, rdF_s]
    obtain ⟨a, b⟩ := rdF_eq (rd := rd) hf h i (by omega)
    exact tnF_eq hf (by omega) a b
theorem ruF_eq {AL BL : Nat → (Nat → Nat) → Bool} {wi vi ro so : Nat → Nat} {nm cs : Nat} (hf : famE nm cs AL BL wi vi ro so) : ∀ f rd (σ τ : RS), eqS nm σ τ → eqS nm (ruF AL wi ro cs f rd σ).1 (ruF BL vi so cs f rd τ).1 ∧ (ruF AL wi ro cs f rd σ).2 = (ruF BL vi so cs f rd τ).2
  | 0, rd, σ, τ, h => ⟨h, rfl⟩
  | f + 1, rd, σ, τ, h => by
    obtain ⟨a, b⟩ := rdF_eq (rd := rd + 1) hf h cs (Nat.le_refl _)
    have ew := a.2.2.2
    have e0 := h.2.2.2
    show eqS nm (ite _ _ _ : RS × Nat × Option Nat).1 (ite _ _ _ : RS × Nat × Option Nat).1 ∧ (ite _ _ _ : RS × Nat × Option Nat).2 = (ite _ _ _ : RS × Nat × Option Nat).2
    rw [← b, ← ew, ← e0]
    by_cases q : (rdF AL wi ro (rd + 1) σ cs).2.isSome = true
    · rw [if_pos q, if_pos q]; exact ⟨a, rfl⟩
    · rw [if_neg q, if_neg q]
      by_cases r : (rdF AL wi ro (rd + 1) σ cs).1.2.2.2 = σ.2.2.2
      · rw [if_pos r, if_pos r]; exact ⟨a, rfl⟩
      · rw [if_neg r, if_neg r]
        exact ruF_eq hf f (rd + 1) _ _ a
theorem ruI_eq {nm : Nat} {q r : RS × Nat × Option Nat} (h : eqS nm q.1 r.1 ∧ q.2 = r.2) : ruI q = ruI r := by
  unfold ruI
  rw [h.2, h.1.2.2.2]
/-- what lies behind the names isn't touched -/
def farS (nm : Nat) (σ τ : RS) : Prop := ∀ x, nm ≤ x → σ.1 x = τ.1 x
theorem tkP_far {ro fo : Nat → Nat} {nm c rd n : Nat} {σ : RS} (hx : ∀ j, j < n → ro (6 * c + j) < nm) : ∀ i, i ≤ n → farS nm (tkP ro fo c rd σ i) σ
  | 0, _ => fun _ _ => rfl
  | i + 1, hi => fun x h => by
    rw [tkP_s]
    show va_up _ _ _ x = _
    have := hx i (by omega)
    rw [va_up_ne _ _ (by omega)]
    exact tkP_far hx i (by omega) x h
theorem rdF_far {AL : Nat → (Nat → Nat) → Bool} {wi ro : Nat → Nat} {nm cs rd : Nat} {σ : RS} (hf : ∀ c, c < cs → ∀ j, j < wi c → ro (6 * c + j) < nm) : ∀ i, i ≤ cs → farS nm (rdF AL wi ro rd σ i).1 σ
  | 0, _ => fun _ _ => rfl
  | i + 1, hi => fun x h => by
    have ih := rdF_far (AL := AL) (rd := rd) (σ := σ) hf i (by omega)
    rw [rdF_s]
    unfold tnF
    split
    · exact ih x h
    · split
      · exact (tkP_far (hf i (by omega)) _ (Nat.le_refl _) x h).trans (ih x h)
      · exact ih x h
theorem ruF_far {AL : Nat → (Nat → Nat) → Bool} {wi ro : Nat → Nat} {nm cs : Nat} (hf : ∀ c, c < cs → ∀ j, j < wi c → ro (6 * c + j) < nm) : ∀ f rd (σ : RS), farS nm (ruF AL wi ro cs f rd σ).1 σ
  | 0, _, _ => fun _ _ => rfl
  | f + 1, rd, σ => fun x h => by
    have a := rdF_far (AL := AL) (rd := rd + 1) (σ := σ) hf cs (Nat.le_refl _) x h
    show (ite _ _ _ : RS × Nat × Option Nat).1.1 x = _
    split
    · exact a
    · split
      · exact a
      · exact (ruF_far hf f (rd + 1) _ x h).trans a
theorem rdF_ok {AL : Nat → (Nat → Nat) → Bool} {wi ro : Nat → Nat} {nm cs rd : Nat} {σ : RS} (hr : ∀ c, c < cs → rowD ro c (wi c)) (h : dmOk nm σ.1) : ∀ i, i ≤ cs → dmOk nm (rdF AL wi ro rd σ i).1.1
  | 0, _ => h
  | i + 1, hi => by
    have ih := rdF_ok (AL := AL) (rd := rd) hr h i (by omega)
    rw [rdF_s]
    unfold tnF
    split
    · exact ih
    · split
      · next q => exact tk_ok ih (hr i (by omega)) q
      · exact ih
theorem ruF_ok {AL : Nat → (Nat → Nat) → Bool} {wi ro : Nat → Nat} {nm cs : Nat} (hr : ∀ c, c < cs → rowD ro c (wi c)) : ∀ f rd (σ : RS), dmOk nm σ.1 → dmOk nm (ruF AL wi ro cs f rd σ).1.1
  | 0, _, _, h => h
  | f + 1, rd, σ, h => by
    have a := rdF_ok (AL := AL) (rd := rd + 1) hr h cs (Nat.le_refl _)
    show dmOk nm (ite _ _ _ : RS × Nat × Option Nat).1.1
    split
    · exact a
    · split
      · exact a
      · exact ruF_ok hr f (rd + 1) _ a
theorem sols_cgo {ok ol : Nat → (Nat → Nat) → Bool} : ∀ d x ch, (∀ y, x ≤ y → y < x + d → ok y = ol y) → sols ok d x ch = sols ol d x ch
  | 0, _, _, _ => rfl
  | d + 1, x, ch, h => by
    rw [sols_s, sols_s]
    refine frm_cg (fun v => ?_) 6 0
    unfold gS
    rw [h x (Nat.le_refl _) (by omega), sols_cgo d (x + 1) _ (fun y h1 h2 => h y (by omega) (by omega))]
theorem tkP_w {ro fo : Nat → Nat} {c rd : Nat} {d : Nat → Nat} {r q : Nat → Int32} {w : Nat} : ∀ i, tkP ro fo c rd (d, r, q, w) i = ((tkP ro fo c rd (d, r, q, 0) i).1, (tkP ro fo c rd (d, r, q, 0) i).2.1, (tkP ro fo c rd (d, r, q, 0) i).2.2.1, w + (tkP ro fo c rd (d, r, q, 0) i).2.2.2)
  | 0 => rfl
  | i + 1 => by
    rw [tkP_s, tkP_s, tkP_w i]
    unfold tk1
    simp only [Nat.add_assoc]
