def frm {α : Type} (g : Nat → List α) : Nat → Nat → List α
  | 0, _ => []
  | n + 1, v => g v ++ frm g n (v + 1)
theorem frm_cg {α : Type} {g h : Nat → List α} (e : ∀ v, g v = h v) : ∀ n v, frm g n v = frm h n v
  | 0, _ => rfl
  | n + 1, v => by
    show g v ++ frm g n (v + 1) = h v ++ frm h n (v + 1)
    rw [e v, frm_cg e n (v + 1)]
/-- the ways to go on with d names more, from name x on -/
def sols (ok : Nat → (Nat → Nat) → Bool) : Nat → Nat → (Nat → Nat) → List (Nat → Nat)
  | 0, _, ch => [ch]
  | d + 1, x, ch => frm (fun v => if ok x (va_up ch x v) = true then sols ok d (x + 1) (va_up ch x v) else []) 6 0
def gS (ok : Nat → (Nat → Nat) → Bool) (d x : Nat) (ch : Nat → Nat) (v : Nat) : List (Nat → Nat) := if ok x (va_up ch x v) = true then sols ok d (x + 1) (va_up ch x v) else []
theorem sols_s {ok : Nat → (Nat → Nat) → Bool} {d x : Nat} {ch : Nat → Nat} : sols ok (d + 1) x ch = frm (gS ok d x ch) 6 0 := rfl
def okdep (ok : Nat → (Nat → Nat) → Bool) : Prop := ∀ (x : Nat) (ch ch' : Nat → Nat), (∀ j, j ≤ x → ch j = ch' j) → ok x ch = ok x ch'
theorem sols_dep {ok : Nat → (Nat → Nat) → Bool} (hk : okdep ok) : ∀ d x (ch ch' : Nat → Nat), (∀ j, j < x ∨ x + d ≤ j → ch j = ch' j) → sols ok d x ch = sols ok d x ch'
  | 0, x, ch, ch', h => by
    have : ch = ch' := funext (fun j => h j (by omega))
    rw [this]
  | d + 1, x, ch, ch', h => by
    refine frm_cg (fun v => ?_) 6 0
    have e1 : ok x (va_up ch x v) = ok x (va_up ch' x v) := hk x _ _ (fun j hj => by
      unfold va_up
      split
      · rfl
      · exact h j (by omega))
    have e2 : sols ok d (x + 1) (va_up ch x v) = sols ok d (x + 1) (va_up ch' x v) := sols_dep hk d (x + 1) _ _ (fun j hj => by
      unfold va_up
      split
      · rfl
      · exact h j (by omega))
    rw [e1, e2]
theorem gS_dep {ok : Nat → (Nat → Nat) → Bool} (hk : okdep ok) {d x : Nat} {ch ch' : Nat → Nat} (h : ∀ j, j < x ∨ x + 1 + d ≤ j → ch j = ch' j) (v : Nat) : gS ok d x ch v = gS ok d x ch' v := by
  unfold gS
  have e1 : ok x (va_up ch x v) = ok x (va_up ch' x v) := hk x _ _ (fun j hj => by
    unfold va_up
    split
    · rfl
    · exact h j (by omega))
  have e2 : sols ok d (x + 1) (va_up ch x v) = sols ok d (x + 1) (va_up ch' x v) := sols_dep hk d (x + 1) _ _ (fun j hj => by
    unfold va_up
    split
    · rfl
    · exact h j (by omega))
  rw [e1, e2]
/-- what comes behind the ways that begin as ch does below x -/
def upL (ok : Nat → (Nat → Nat) → Bool) (nm : Nat) : Nat → (Nat → Nat) → List (Nat → Nat)
  | 0, _ => []
  | x + 1, ch => frm (gS ok (nm - x - 1) x ch) (6 - (ch x + 1)) (ch x + 1) ++ upL ok nm x ch
def rst (ok : Nat → (Nat → Nat) → Bool) (nm x : Nat) (ch : Nat → Nat) : List (Nat → Nat) := frm (gS ok (nm - x - 1) x ch) (6 - ch x) (ch x) ++ upL ok nm x ch
def cuR (ok : Nat → (Nat → Nat) → Bool) (nm x : Nat) (ch : Nat → Nat) : List (Nat → Nat) := if x < nm then rst ok nm x ch else ch :: upL ok nm x ch
theorem upL_dep {ok : Nat → (Nat → Nat) → Bool} (hk : okdep ok) {nm : Nat} : ∀ x, x ≤ nm → ∀ ch ch' : Nat → Nat, (∀ j, j < x ∨ nm ≤ j → ch j = ch' j) → upL ok nm x ch = upL ok nm x ch'
  | 0, _, _, _, _ => rfl
  | x + 1, hx, ch, ch', h => by
    show frm _ _ _ ++ _ = frm _ _ _ ++ _
    rw [h x (by omega), frm_cg (gS_dep hk (fun j hj => h j (by omega))), upL_dep hk x (by omega) ch ch' (fun j hj => h j (by omega))]
theorem rst_dep {ok : Nat → (Nat → Nat) → Bool} (hk : okdep ok) {nm x : Nat} (hx : x < nm) {ch ch' : Nat → Nat} (h : ∀ j, j ≤ x ∨ nm ≤ j → ch j = ch' j) : rst ok nm x ch = rst ok nm x ch' := by
  unfold rst
  rw [h x (by omega), frm_cg (gS_dep hk (fun j hj => h j (by omega))), upL_dep hk x (by omega) ch ch' (fun j hj => h j (by omega))]
theorem cuR_lt {ok : Nat → (Nat → Nat) → Bool} {nm x : Nat} {ch : Nat → Nat} (h : x < nm) : cuR ok nm x ch = rst ok nm x ch := by unfold cuR; rw [if_pos h]
theorem cuR_ge {ok : Nat → (Nat → Nat) → Bool} {nm x : Nat} {ch : Nat → Nat} (h : ¬ x < nm) : cuR ok nm x ch = ch :: upL ok nm x ch := by unfold cuR; rw [if_neg h]
theorem rst_open {ok : Nat → (Nat → Nat) → Bool} {nm x : Nat} {ch : Nat → Nat} (hv : ch x < 6) : rst ok nm x ch = gS ok (nm - x - 1) x ch (ch x) ++ upL ok nm (x + 1) ch := by
  unfold rst
  rw [show 6 - ch x = (6 - (ch x + 1)) + 1 by omega]
  show (gS ok (nm - x - 1) x ch (ch x) ++ _) ++ _ = _
  rw [List.append_assoc]
  rfl
theorem rst_skip {ok : Nat → (Nat → Nat) → Bool} (hk : okdep ok) {nm x : Nat} (hx : x < nm) {ch : Nat → Nat} (hv : ch x < 6) (h : ok x ch = false) : rst ok nm x ch = rst ok nm x (va_up ch x (ch x + 1)) := by
  rw [rst_open hv]
  have e : gS ok (nm - x - 1) x ch (ch x) = [] := by
    unfold gS
    rw [up_self, h]
    rfl
  rw [e, List.nil_append]
  unfold rst
  rw [va_up_self]
  show frm _ _ _ ++ _ = _
  rw [frm_cg (gS_dep hk (ch' := va_up ch x (ch x + 1)) (fun j hj => (va_up_ne _ _ (by omega)).symm)), upL_dep hk x (by omega) ch (va_up ch x (ch x + 1)) (fun j hj => (va_up_ne _ _ (by omega)).symm)]
theorem rst_in1 {ok : Nat → (Nat → Nat) → Bool} (hk : okdep ok) {nm x : Nat} (hx : x + 1 < nm) {ch : Nat → Nat} (hv : ch x < 6) (h : ok x ch = true) : rst ok nm x ch = cuR ok nm (x + 1) (va_up ch (x + 1) 0) := by
  rw [rst_open hv, cuR_lt hx]
  have e : gS ok (nm - x - 1) x ch (ch x) = sols ok (nm - x - 1) (x + 1) ch := by
    unfold gS
    rw [up_self, if_pos h]
  rw [e, show nm - x - 1 = (nm - (x + 1) - 1) + 1 by omega, sols_s]
  unfold rst
  rw [va_up_self, frm_cg (gS_dep hk (ch' := va_up ch (x + 1) 0) (fun j hj => (va_up_ne _ _ (by omega)).symm)), upL_dep hk (x + 1) (by omega) ch (va_up ch (x + 1) 0) (fun j hj => (va_up_ne _ _ (by omega)).symm)]
theorem rst_in2 {ok : Nat → (Nat → Nat) → Bool} {nm x : Nat} (hx : x + 1 = nm) {ch : Nat → Nat} (hv : ch x < 6) (h : ok x ch = true) : rst ok nm x ch = cuR ok nm (x + 1) ch := by
  rw [rst_open hv, cuR_ge (by omega)]
  have e : gS ok (nm - x - 1) x ch (ch x) = sols ok (nm - x - 1) (x + 1) ch := by
    unfold gS
    rw [up_self, if_pos h]
  rw [e, show nm - x - 1 = 0 by omega]
  rfl
theorem rst_out {ok : Nat → (Nat → Nat) → Bool} (hk : okdep ok) {nm y : Nat} (hx : y + 1 < nm) {ch : Nat → Nat} (hv : 6 ≤ ch (y + 1)) : rst ok nm (y + 1) ch = rst ok nm y (va_up ch y (ch y + 1)) := by
  unfold rst
  rw [show 6 - ch (y + 1) = 0 by omega, va_up_self]
  show [] ++ (frm _ _ _ ++ _) = _
  rw [List.nil_append, frm_cg (gS_dep hk (ch' := va_up ch y (ch y + 1)) (fun j hj => (va_up_ne _ _ (by omega)).symm)), upL_dep hk y (by omega) ch (va_up ch y (ch y + 1)) (fun j hj => (va_up_ne _ _ (by omega)).symm)]
theorem rst_end {ok : Nat → (Nat → Nat) → Bool} {nm : Nat} {ch : Nat → Nat} (hv : 6 ≤ ch 0) : rst ok nm 0 ch = [] := by
  unfold rst
  rw [show 6 - ch 0 = 0 by omega]
  rfl
/-- behind a way that was found: what the next search begins with -/
theorem upL_next {ok : Nat → (Nat → Nat) → Bool} (hk : okdep ok) {nm : Nat} (hn : 1 ≤ nm) {ch : Nat → Nat} : upL ok nm nm ch = cuR ok nm (nm - 1) (va_up ch (nm - 1) (ch (nm - 1) + 1)) := by
  rw [cuR_lt (by omega)]
  obtain ⟨x, rfl⟩ : ∃ x, nm = x + 1 := ⟨nm - 1, by omega⟩
  show frm _ _ _ ++ _ = _
  rw [show x + 1 - 1 = x by omega]
  unfold rst
  rw [va_up_self, frm_cg (gS_dep hk (ch' := va_up ch x (ch x + 1)) (fun j hj => (va_up_ne _ _ (by omega)).symm)), upL_dep hk x (by omega) ch (va_up ch x (ch x + 1)) (fun j hj => (va_up_ne _ _ (by omega)).symm)]
theorem rst_all {ok : Nat → (Nat → Nat) → Bool} {nm : Nat} (hn : 1 ≤ nm) {ch : Nat → Nat} (h : ch 0 = 0) : cuR ok nm 0 ch = sols ok nm 0 ch := by
  rw [cuR_lt (by omega)]
  unfold rst
  rw [h]
  show frm _ _ _ ++ [] = _
  rw [List.append_nil, show nm = (nm - 0 - 1) + 1 by omega, sols_s]
  rfl
/-- how far a search is from its end -/
def pmS (nm : Nat) (ch : Nat → Nat) (x : Nat) : Nat := sm (fun j => 2 * ((6 - ch j) * 14 ^ (nm - j))) x
def muS (nm x : Nat) (ch : Nat → Nat) : Nat := pmS nm ch x + (if x < nm then 2 * ((6 - ch x) * 14 ^ (nm - x)) + 14 ^ (nm - x) else 0)
theorem pmS_cg {nm x : Nat} {ch ch' : Nat → Nat} (h : ∀ j, j < x → ch j = ch' j) : pmS nm ch x = pmS nm ch' x := sm_cg (fun i hi => by rw [h i hi])
theorem mu_in1 {nm x : Nat} (hx : x + 1 < nm) {ch : Nat → Nat} : muS nm (x + 1) (va_up ch (x + 1) 0) < muS nm x ch := by
  unfold muS
  rw [if_pos hx, if_pos (by omega), va_up_self, pmS_cg (ch' := ch) (fun j hj => va_up_ne _ _ (by omega))]
  show pmS nm ch x + 2 * ((6 - ch x) * 14 ^ (nm - x)) + _ < _
  rw [show 14 ^ (nm - x) = 14 * 14 ^ (nm - (x + 1)) by rw [show nm - x = (nm - (x + 1)) + 1 by omega, Nat.pow_succ, Nat.mul_comm]]
  have := Nat.pow_pos (n := (nm - (x + 1))) (show 0 < 14 by decide)
  omega
theorem mu_in2 {nm x : Nat} (hx : x + 1 = nm) {ch : Nat → Nat} : muS nm (x + 1) ch < muS nm x ch := by
  unfold muS
  rw [if_neg (by omega), if_pos (by omega)]
  show pmS nm ch x + 2 * ((6 - ch x) * 14 ^ (nm - x)) + 0 < _
  have := Nat.pow_pos (n := (nm - x)) (show 0 < 14 by decide)
  omega
theorem mu_out {nm y : Nat} (hx : y + 1 < nm) {ch : Nat → Nat} (hy : ch y < 6) : muS nm y (va_up ch y (ch y + 1)) < muS nm (y + 1) ch := by
  unfold muS
  rw [if_pos hx, if_pos (by omega), va_up_self, pmS_cg (ch' := ch) (fun j hj => va_up_ne _ _ (by omega))]
  show _ < pmS nm ch y + 2 * ((6 - ch y) * 14 ^ (nm - y)) + _
  have e : (6 - ch y) * 14 ^ (nm - y) = (6 - (ch y + 1)) * 14 ^ (nm - y) + 14 ^ (nm - y) := by rw [← Nat.succ_mul, show (6 - (ch y + 1)).succ = 6 - ch y by omega]
  have := Nat.pow_pos (n := (nm - (y + 1))) (show 0 < 14 by decide)
  have := Nat.pow_pos (n := (nm - y)) (show 0 < 14 by decide)
  omega
theorem mu_inc {nm x : Nat} {ch : Nat → Nat} (hv : ch x < 6) : muS nm x (va_up ch x (ch x + 1)) ≤ muS nm x ch := by
  unfold muS
  rw [va_up_self, pmS_cg (ch' := ch) (fun j hj => va_up_ne _ _ (by omega))]
  split
  · have : (6 - (ch x + 1)) * 14 ^ (nm - x) ≤ (6 - ch x) * 14 ^ (nm - x) := Nat.mul_le_mul_right _ (by omega)
    omega
  · exact Nat.le_refl _
/-- whether a value may stand at name x, by the domains and by the constraints whose greatest name it is -/
def okX (ki wi ro lw hg wh mn tu sf sv so sc dm : Nat → Nat) (cs x : Nat) (ch : Nat → Nat) : Bool := (dm x).testBit (ch x) && !anyB (barC ki wi ro lw hg wh mn tu sf sv so sc ch x) cs
theorem okX_dep {ki wi ro lw hg wh mn tu sf sv so sc dm : Nat → Nat} {cs : Nat} (h3 : ∀ k, k < cs → ki k = 2 → 3 ≤ wi k) : okdep (okX ki wi ro lw hg wh mn tu sf sv so sc dm cs) := fun x ch ch' h => by
  unfold okX
  rw [h x (Nat.le_refl _), anyB_cg (g := barC ki wi ro lw hg wh mn tu sf sv so sc ch' x) (fun c hc => by
    unfold barC
    by_cases g : mxF ro c (wi c) = x
    · rw [alF_cg (w := chW ro ch c) (u := chW ro ch' c) (h3 c hc) (fun j hj => h _ (by have := mxF_ge (ro := ro) (c := c) hj; omega))]
    · rw [decide_eq_false g]
      rfl)]
theorem okX_f1 {ki wi ro lw hg wh mn tu sf sv so sc dm ch : Nat → Nat} {cs x : Nat} (h : dm x / 2 ^ ch x % 2 = 0) : okX ki wi ro lw hg wh mn tu sf sv so sc dm cs x ch = false := by
  unfold okX
  rw [tb_f (by omega)]
  rfl
theorem okX_f2 {ki wi ro lw hg wh mn tu sf sv so sc dm ch : Nat → Nat} {cs x : Nat} (h : anyB (barC ki wi ro lw hg wh mn tu sf sv so sc ch x) cs = true) : okX ki wi ro lw hg wh mn tu sf sv so sc dm cs x ch = false := by
  unfold okX
  rw [h, Bool.not_true, Bool.and_false]
theorem okX_t {ki wi ro lw hg wh mn tu sf sv so sc dm ch : Nat → Nat} {cs x : Nat} (h : ¬ dm x / 2 ^ ch x % 2 = 0) (g : anyB (barC ki wi ro lw hg wh mn tu sf sv so sc ch x) cs = false) : okX ki wi ro lw hg wh mn tu sf sv so sc dm cs x ch = true := by
  unfold okX
  rw [tb_t (by omega), g]
  rfl
