theorem va_nd_iff : ∀ l : List Nat, va_nd l = true ↔ l.Nodup
  | [] => by simp [va_nd]
  | a :: l => by simp [va_nd, List.nodup_cons, va_nd_iff l]
section TAIL
variable {α : Type}
theorem ix_low {ws T wc : List α} {is : List Nat} (h : is.map (fun i => ws[i]?) = wc.map some) : is.map (fun i => (ws ++ T)[i]?) = wc.map some ∧ ∀ i ∈ is, i < ws.length := by
  have hb : ∀ i ∈ is, i < ws.length := fun i hi => by
    have h1 : ws[i]? ∈ is.map (fun i => ws[i]?) := List.mem_map.mpr ⟨i, hi, rfl⟩
    rw [h] at h1
    obtain ⟨x, -, hx⟩ := List.mem_map.mp h1
    exact (List.getElem?_eq_some_iff.mp hx.symm).1
  refine ⟨?_, hb⟩
  rw [← h]
  exact List.map_congr_left (fun i hi => List.getElem?_append_left (hb i hi))
def shL (ws T : List α) : List Nat := (List.range T.length).map (fun j => ws.length + j)
theorem sh_map {ws T : List α} : (shL ws T).map (fun i => (ws ++ T)[i]?) = T.map some := by
  unfold shL
  rw [List.map_map]
  apply List.ext_getElem
  · simp
  · intro i h1 h2
    simp
    rw [List.getElem?_append_right (by omega), Nat.add_sub_cancel_left]
    simp
theorem sh_nd {ws T : List α} : (shL ws T).Nodup := by
  unfold shL
  exact List.Pairwise.map _ (fun a b (h : a ≠ b) => by omega) List.nodup_range
theorem sh_ge {ws T : List α} {i : Nat} (h : i ∈ shL ws T) : ws.length ≤ i := by
  unfold shL at h
  obtain ⟨j, -, e⟩ := List.mem_map.mp h
  omega
theorem ix_T {ws T wc : List α} {is : List Nat} (h : is.map (fun i => ws[i]?) = wc.map some) : (is ++ shL ws T).map (fun i => (ws ++ T)[i]?) = (wc ++ T).map some := by
  rw [List.map_append, List.map_append, (ix_low h).1, sh_map]
theorem nd_T {ws T wc : List α} {is : List Nat} (h : is.map (fun i => ws[i]?) = wc.map some) (hn : va_nd is = true) : va_nd (is ++ shL ws T) = true := by
  rw [va_nd_iff] at hn ⊢
  rw [List.nodup_append]
  refine ⟨hn, sh_nd, fun a ha b hb e => ?_⟩
  have := (ix_low (T := T) h).2 a ha
  have := sh_ge hb
  omega
theorem idx_all (es : List α) : (List.range es.length).filterMap (fun i => es[i]?) = es := by
  induction es with
  | nil => rfl
  | cons a l ih =>
    rw [List.length_cons, List.range_succ_eq_map, List.filterMap_cons]
    show a :: _ = _
    rw [List.filterMap_map]
    congr 1
end TAIL
theorem spl_app {ws wc wr : va_W} (T : va_W) (h : spl ws wc wr) : spl (ws ++ T) wc (wr ++ T) := by
  obtain ⟨isC, isR, hC, hR, hnC, hnR, hd⟩ := h
  refine ⟨isC, isR ++ shL ws T, (ix_low hC).1, ix_T hR, hnC, nd_T hR hnR, fun i hi hc => ?_⟩
  rcases List.mem_append.mp hi with q | q
  · exact hd i q hc
  · have := (ix_low (T := T) hC).2 i hc
    have := sh_ge q
    omega
theorem spl_app2 {ws wc wr : va_W} (T : va_W) (h : spl ws wc wr) : spl (ws ++ T) (wc ++ T) wr := by
  obtain ⟨isC, isR, hC, hR, hnC, hnR, hd⟩ := h
  refine ⟨isC ++ shL ws T, isR, ix_T hC, (ix_low hR).1, nd_T hC hnC, hnR, fun i hi hc => ?_⟩
  rcases List.mem_append.mp hc with q | q
  · exact hd i hi q
  · have := (ix_low (T := T) hR).2 i hi
    have := sh_ge q
    omega
def fl : List va_W → va_W
  | [] => []
  | [x] => x
  | x :: y :: r => x ++ fl (y :: r)
theorem fl_flat : ∀ es : List va_W, fl es = es.flatten
  | [] => rfl
  | [x] => by show x = x ++ []; rw [List.append_nil]
  | x :: y :: r => by show x ++ fl (y :: r) = x ++ (y :: r).flatten; rw [fl_flat (y :: r)]
theorem flp (n : Nat) (es : List va_W) (is : List Nat) (hl : es.length = n) (h : is.Perm (List.range n)) : (fl es).Perm (fl (is.filterMap (fun i => es[i]?))) := by
  rw [fl_flat, fl_flat]
  have q := (h.filterMap (fun i => es[i]?)).symm
  rw [← hl, idx_all] at q
  exact q.flatten
theorem pT (a T b : va_W) : ((a ++ T) ++ b).Perm ((a ++ b) ++ T) := by
  rw [List.append_assoc, List.append_assoc]
  exact List.Perm.append_left a List.perm_append_comm
