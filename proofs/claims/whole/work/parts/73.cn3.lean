theorem keM_fo {dm ro : Nat → Nat} {c n : Nat} {al : (Nat → Nat) → Bool} (hl : lowF n al) : keM (fun j => dm (ro (6 * c + j))) n al (foM al (prodL dm ro c n (fun _ => 0))) := keM_mk (fun j hj v => by
  unfold foM
  rw [mkM_bit, Bool.and_eq_true, decide_eq_true_iff, any_ex (lowF_and hl hj)]
  exact ⟨fun h => h.2, fun h => ⟨exW_lt hj h, h⟩⟩)
/-- one turn of a run, as the program takes it -/
theorem turn_ok {dm ro op kp wi : Nat → Nat} {c : Nat} {al : (Nat → Nat) → Bool} {b : Bool} (hl : lowF (wi c) al) (ho : ∀ j, j < wi c → op j = dm (ro (6 * c + j))) (hb : b = true ↔ exW op (wi c) al) (hk : b = true → keM op (wi c) al kp) : b = (opL wi ro dm c).any al ∧ (b = true → ∀ j, j < wi c → kp j = foM al (opL wi ro dm c) j) := by
  refine ⟨Bool.eq_iff_iff.mpr (hb.trans ((exW_op ho).trans (any_ex hl).symm)), fun e j hj => ?_⟩
  exact keM_eq (keM_op ho (hk e)) (keM_fo hl) hj
