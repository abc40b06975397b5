/-- domains, reasons and rounds of both sides -/
def dR (nm : Nat) (dm em : Nat → Nat) (rs ss rn tn : Nat → Int32) : Prop := (∀ x, x < nm → dm x = em x) ∧ (∀ x, nm ≤ x → dm x = 0) ∧ dmOk nm dm ∧ (∀ j, em j < 64) ∧ (∀ q, q < 6 * nm → rs q = ss q) ∧ ∀ q, q < 6 * nm → rn q = tn q
/-- the constraints of both sides -/
def kR (nm cs : Nat) (K : Nat → KD) (ar : Nat → Nat → Nat) : Prop := (∀ i, i < cs → kmo (K i) (ar 10) (ar 11) (ar 12) (ar 13) (ar 14) (ar 15) (ar 16) (ar 17) (ar 18) (ar 19) (ar 20) (ar 21) (ar 22) i ∧ kok (K i) ∧ (∀ j, j < ar 11 i → ar 13 (6 * i + j) < nm) ∧ rowD (ar 13) i (ar 11 i) ∧ ar 14 i < 64 ∧ ar 15 i ≤ 1000 ∧ ar 16 i < 6) ∧ (∀ j, ar 10 j ≤ 6) ∧ (∀ j, ar 11 j ≤ 6) ∧ (∀ j, ar 13 j < 6) ∧ (∀ j, ar 18 j < 2147483648) ∧ (∀ j, ar 19 j < 6) ∧ (∀ j, ar 20 j < 6) ∧ (∀ j, ar 21 j < 6) ∧ ∀ j, ar 22 j ≤ 100
abbrev ALr (ar : Nat → Nat → Nat) : Nat → (Nat → Nat) → Bool := alF (ar 10) (ar 11) (ar 14) (ar 15) (ar 16) (ar 17) (ar 18) (ar 19) (ar 20) (ar 21) (ar 22)
theorem kok_3 {κ : KD} (h : kok κ) (q : κ.kd = 2) : 3 ≤ κ.n := (h.2.2.2.2.2.1 (by omega)).1.2.2.1 q
theorem kok_m {κ : KD} (h : kok κ) : κ.m ≤ 30 ∧ (κ.kd = 0 → κ.m ≤ 20) := by
  refine ⟨?_, fun q => (h.2.2.2.1 q).1⟩
  have h6 := h.1
  rcases (show κ.kd = 0 ∨ κ.kd = 1 ∨ 2 ≤ κ.kd by omega) with q | q | q
  · have := (h.2.2.2.1 q).1; omega
  · exact (h.2.2.2.2.1 q).2.2.1
  · have := (h.2.2.2.2.2.1 q).2; omega
theorem kR_okM {nm cs : Nat} {K : Nat → KD} {ar : Nat → Nat → Nat} {dm em : Nat → Nat} {rs ss rn tn : Nat → Int32} (h : kR nm cs K ar) (d : dR nm dm em rs ss rn tn) : okM cs em (ar 10) (ar 11) (ar 13) (ar 14) (ar 15) (ar 16) (ar 17) (ar 18) (ar 19) (ar 20) (ar 21) (ar 22) := by
  obtain ⟨h1, h2, h3, h4, h5, h6, h7, h8, h9⟩ := h
  refine ⟨fun k hk => ?_, h4, h5, h6, h7, h8, h9⟩
  obtain ⟨⟨⟨e1, e2, e3, e4, e5, e6, e7⟩, -⟩, g2, g3, g4, g5, g6, g7⟩ := h1 k hk
  have m := kok_m g2
  refine ⟨h2 k, ?_, ?_, ?_, ?_, g5, g6, g7, fun j hj => ⟨d.2.2.2.1 _, ?_⟩⟩
  · rw [← e2]; exact g2.2.1
  · rw [← e1, ← e2]; exact kok_3 g2
  · rw [← e7]; exact m.1
  · rw [← e1, ← e7]; exact m.2
  · rw [← d.1 _ (g3 j hj)]; exact d.2.2.1.2 _ (g3 j hj)
theorem kR_low {nm cs : Nat} {K : Nat → KD} {ar : Nat → Nat → Nat} (h : kR nm cs K ar) {i : Nat} (hi : i < cs) : lowF (ar 11 i) (ALr ar i) := fun w u e => by
  obtain ⟨⟨⟨e1, e2, -⟩, -⟩, g2, -⟩ := h.1 i hi
  exact alF_cg (by rw [← e1, ← e2]; exact kok_3 g2) e
theorem kR_fam {nm cs : Nat} {K : Nat → KD} {ar : Nat → Nat → Nat} (h : kR nm cs K ar) : famK K (ALr ar) (ar 11) (ar 13) nm cs := fun i hi => by
  obtain ⟨g1, g2, g3, g4, -⟩ := h.1 i hi
  refine ⟨g2, kal_of g1 g2 h.2.2.2.2.2.1 h.2.2.2.2.2.2.2.1 h.2.2.2.2.2.2.2.2, kR_low h hi, g1.1.2.1, fun j hj => ?_, g4⟩
  have e := g1.2.1 j (by rw [g1.1.2.1]; exact hj)
  exact ⟨e.symm, by rw [e]; exact g3 j hj⟩
theorem kR_rows {nm cs : Nat} {K : Nat → KD} {ar : Nat → Nat → Nat} (h : kR nm cs K ar) : ∀ k, k < cs → (∀ j, j < ar 11 k → ar 13 (6 * k + j) < nm) ∧ rowD (ar 13) k (ar 11 k) := fun k hk => ⟨(h.1 k hk).2.2.1, (h.1 k hk).2.2.2.1⟩
theorem kR_mono {nm cs n2 c2 : Nat} {K : Nat → KD} {ar : Nat → Nat → Nat} (h : kR nm cs K ar) (h1 : nm ≤ n2) (h2 : c2 ≤ cs) : kR n2 c2 K ar := ⟨fun i hi => by
  obtain ⟨g1, g2, g3, g⟩ := h.1 i (by omega)
  exact ⟨g1, g2, fun j hj => Nat.lt_of_lt_of_le (g3 j hj) h1, g⟩, h.2⟩
/-- the model's other arrays may change -/
theorem kR_ar {nm cs : Nat} {K : Nat → KD} {ar br : Nat → Nat → Nat} (h : kR nm cs K ar) (e : ∀ k, 10 ≤ k → k ≤ 22 → ar k = br k) : kR nm cs K br := by
  unfold kR at h ⊢
  rw [← e 10 (by omega) (by omega), ← e 11 (by omega) (by omega), ← e 12 (by omega) (by omega), ← e 13 (by omega) (by omega), ← e 14 (by omega) (by omega), ← e 15 (by omega) (by omega), ← e 16 (by omega) (by omega), ← e 17 (by omega) (by omega), ← e 18 (by omega) (by omega), ← e 19 (by omega) (by omega), ← e 20 (by omega) (by omega), ← e 21 (by omega) (by omega), ← e 22 (by omega) (by omega)]
  exact h
theorem pw_1 : ∀ v, v < 7 → (1 * 2 ^ v - 1 < 64 ∧ (¬ v = 0 → ¬ 1 * 2 ^ v - 1 = 0)) := by decide
theorem name_R {nm mk : Nat} {dm em : Nat → Nat} {rs ss rn tn : Nat → Int32} {o : Option Nat} (h6 : nm ≤ 6) (ho : ∀ v, o = some v → v < 7) (d : dR nm dm em rs ss rn tn) : (nmS nm mk dm rs rn o).1 = (nmS nm mk em ss tn o).1 ∧ (nmS nm mk dm rs rn o).2.1 = (nmS nm mk em ss tn o).2.1 ∧ (nmS nm mk dm rs rn o).2.1 ≤ 6 ∧ nm ≤ (nmS nm mk dm rs rn o).2.1 ∧ (0 < mk → (nmS nm mk dm rs rn o).2.1 = nm) ∧ dR (nmS nm mk dm rs rn o).2.1 (nmS nm mk dm rs rn o).2.2.1 (nmS nm mk em ss tn o).2.2.1 (nmS nm mk dm rs rn o).2.2.2.1 (nmS nm mk em ss tn o).2.2.2.1 (nmS nm mk dm rs rn o).2.2.2.2 (nmS nm mk em ss tn o).2.2.2.2 := by
  have same : ∀ z : Int32, (z, nm, dm, rs, rn).1 = (z, nm, em, ss, tn).1 ∧ (z, nm, dm, rs, rn).2.1 = (z, nm, em, ss, tn).2.1 ∧ (z, nm, dm, rs, rn).2.1 ≤ 6 ∧ nm ≤ (z, nm, dm, rs, rn).2.1 ∧ (0 < mk → (z, nm, dm, rs, rn).2.1 = nm) ∧ dR (z, nm, dm, rs, rn).2.1 (z, nm, dm, rs, rn).2.2.1 (z, nm, em, ss, tn).2.2.1 (z, nm, dm, rs, rn).2.2.2.1 (z, nm, em, ss, tn).2.2.2.1 (z, nm, dm, rs, rn).2.2.2.2 (z, nm, em, ss, tn).2.2.2.2 := fun z => ⟨rfl, rfl, h6, Nat.le_refl _, fun _ => rfl, d⟩
  cases o with
  | none => exact same (-2)
  | some v =>
    have hv := pw_1 v (ho v rfl)
    by_cases q0 : v = 0
    · rw [show nmS nm mk dm rs rn (some v) = (-2, nm, dm, rs, rn) from if_pos q0, show nmS nm mk em ss tn (some v) = (-2, nm, em, ss, tn) from if_pos q0]; exact same (-2)
    · by_cases q1 : 0 < mk
      · rw [show nmS nm mk dm rs rn (some v) = (-5, nm, dm, rs, rn) from (if_neg q0).trans (if_pos q1), show nmS nm mk em ss tn (some v) = (-5, nm, em, ss, tn) from (if_neg q0).trans (if_pos q1)]; exact same (-5)
      · by_cases q2 : nm = 6
        · rw [show nmS nm mk dm rs rn (some v) = (-3, nm, dm, rs, rn) from (if_neg q0).trans ((if_neg q1).trans (if_pos q2)), show nmS nm mk em ss tn (some v) = (-3, nm, em, ss, tn) from (if_neg q0).trans ((if_neg q1).trans (if_pos q2))]; exact same (-3)
        · rw [show nmS nm mk dm rs rn (some v) = (nI nm, nm + 1, va_up dm nm (1 * 2 ^ v - 1), fil rs (6 * nm) (bgR v) 6, fil rn (6 * nm) (fun _ => nI 0) 6) from (if_neg q0).trans ((if_neg q1).trans (if_neg q2)), show nmS nm mk em ss tn (some v) = (nI nm, nm + 1, va_up em nm (1 * 2 ^ v - 1), fil ss (6 * nm) (bgR v) 6, fil tn (6 * nm) (fun _ => nI 0) 6) from (if_neg q0).trans ((if_neg q1).trans (if_neg q2))]
          obtain ⟨d1, d2, d3, d4, d5, d6⟩ := d
          show (nI nm = nI nm ∧ nm + 1 = nm + 1 ∧ nm + 1 ≤ 6 ∧ nm ≤ nm + 1 ∧ (0 < mk → nm + 1 = nm) ∧ dR (nm + 1) (va_up dm nm (1 * 2 ^ v - 1)) (va_up em nm (1 * 2 ^ v - 1)) (fil rs (6 * nm) (bgR v) 6) (fil ss (6 * nm) (bgR v) 6) (fil rn (6 * nm) (fun _ => nI 0) 6) (fil tn (6 * nm) (fun _ => nI 0) 6))
          refine ⟨rfl, rfl, by omega, by omega, fun q => absurd q q1, fun x hx => ?_, fun x hx => ?_, ⟨fun j => up_lt d3.1 hv.1 j, fun x hx => ?_⟩, fun j => up_lt d4 hv.1 j, fun q hq => ?_, fun q hq => ?_⟩
          · show va_up dm nm _ x = va_up em nm _ x
            unfold va_up
            split
            · rfl
            · exact d1 x (by omega)
          · show va_up dm nm _ x = 0
            rw [va_up_ne _ _ (by omega)]; exact d2 x (by omega)
          · show ¬ va_up dm nm _ x = 0
            by_cases e : x = nm
            · rw [e, va_up_self]; exact hv.2 q0
            · rw [va_up_ne _ _ e]; exact d3.2 x (by omega)
          · show fil rs _ _ _ q = fil ss _ _ _ q
            unfold fil
            split
            · rfl
            · exact d5 q (by omega)
          · show fil rn _ _ _ q = fil tn _ _ _ q
            unfold fil
            split
            · rfl
            · exact d6 q (by omega)
theorem cut_R {nm : Nat} {dm em : Nat → Nat} {rs ss rn tn : Nat → Int32} {o : Option (Nat × Nat)} (ho : ∀ t, o = some t → t.1 < nm ∧ t.2 < 64) (d : dR nm dm em rs ss rn tn) : (cutS dm rs rn o).1 = (cutS em ss tn o).1 ∧ dR nm (cutS dm rs rn o).2.1 (cutS em ss tn o).2.1 (cutS dm rs rn o).2.2.1 (cutS em ss tn o).2.2.1 (cutS dm rs rn o).2.2.2 (cutS em ss tn o).2.2.2 := by
  cases o with
  | none => exact ⟨rfl, d⟩
  | some t =>
    obtain ⟨h1, h2⟩ := ho t rfl
    obtain ⟨d1, d2, d3, d4, d5, d6⟩ := d
    have e := d1 t.1 h1
    by_cases q : dm t.1 &&& t.2 = 0
    · rw [show cutS dm rs rn (some t) = (-4, dm, rs, rn) from if_pos q, show cutS em ss tn (some t) = (-4, em, ss, tn) from if_pos (by rw [← e]; exact q)]; exact ⟨rfl, d1, d2, d3, d4, d5, d6⟩
    · rw [show cutS dm rs rn (some t) = (nI (sm (fun v => dif (dm t.1) t.2 / 2 ^ v % 2) 6), va_up dm t.1 (dif (dm t.1) (dif (dm t.1) t.2)), mkS rs (6 * t.1) (dif (dm t.1) t.2) (nI 10) 6, mkS rn (6 * t.1) (dif (dm t.1) t.2) (nI 0) 6) from if_neg q, show cutS em ss tn (some t) = (nI (sm (fun v => dif (em t.1) t.2 / 2 ^ v % 2) 6), va_up em t.1 (dif (em t.1) (dif (em t.1) t.2)), mkS ss (6 * t.1) (dif (em t.1) t.2) (nI 10) 6, mkS tn (6 * t.1) (dif (em t.1) t.2) (nI 0) 6) from if_neg (by rw [← e]; exact q)]
      rw [← e, dif_dif _ (d3.1 _) _ h2]
      have hlt : dm t.1 &&& t.2 < 64 := Nat.lt_of_le_of_lt Nat.and_le_left (d3.1 _)
      refine ⟨rfl, fun x hx => ?_, fun x hx => ?_, ⟨fun j => up_lt d3.1 hlt j, fun x hx => ?_⟩, fun j => up_lt d4 hlt j, fun q hq => ?_, fun q hq => ?_⟩
      · show va_up dm t.1 _ x = va_up em t.1 _ x
        unfold va_up
        split
        · rfl
        · exact d1 x hx
      · show va_up dm t.1 _ x = 0
        rw [va_up_ne _ _ (by omega)]; exact d2 x hx
      · show ¬ va_up dm t.1 _ x = 0
        by_cases z : x = t.1
        · rw [z, va_up_self]; exact q
        · rw [va_up_ne _ _ z]; exact d3.2 x hx
      · show mkS rs _ _ _ _ q = mkS ss _ _ _ _ q
        unfold mkS
        split
        · rfl
        · exact d5 q hq
      · show mkS rn _ _ _ _ q = mkS tn _ _ _ _ q
        unfold mkS
        split
        · rfl
        · exact d6 q hq
/-- runs of both sides -/
theorem run_R {nm cs : Nat} {K : Nat → KD} {ar : Nat → Nat → Nat} {dm em : Nat → Nat} {rs ss rn tn : Nat → Int32} (h : kR nm cs K ar) (d : dR nm dm em rs ss rn tn) : ruI (ruF (ALr ar) (ar 11) (ar 13) cs 100 0 (dm, rs, rn, 0)) = ruI (ruF (ALr ar) (ar 11) (ar 13) cs 100 0 (em, ss, tn, 0)) ∧ (ruF (ALr ar) (ar 11) (ar 13) cs 100 0 (dm, rs, rn, 0)).2.1 = (ruF (ALr ar) (ar 11) (ar 13) cs 100 0 (em, ss, tn, 0)).2.1 ∧ dR nm (ruF (ALr ar) (ar 11) (ar 13) cs 100 0 (dm, rs, rn, 0)).1.1 (ruF (ALr ar) (ar 11) (ar 13) cs 100 0 (em, ss, tn, 0)).1.1 (ruF (ALr ar) (ar 11) (ar 13) cs 100 0 (dm, rs, rn, 0)).1.2.1 (ruF (ALr ar) (ar 11) (ar 13) cs 100 0 (em, ss, tn, 0)).1.2.1 (ruF (ALr ar) (ar 11) (ar 13) cs 100 0 (dm, rs, rn, 0)).1.2.2.1 (ruF (ALr ar) (ar 11) (ar 13) cs 100 0 (em, ss, tn, 0)).1.2.2.1 := by
  obtain ⟨d1, d2, d3, d4, d5, d6⟩ := d
  have hf : famE nm cs (ALr ar) (ALr ar) (ar 11) (ar 11) (ar 13) (ar 13) := fun c hc => ⟨rfl, fun j hj => ⟨rfl, (h.1 c hc).2.2.1 j hj⟩, fun _ _ => rfl⟩
  have g := ruF_eq hf 100 0 (dm, rs, rn, 0) (em, ss, tn, 0) ⟨d1, d5, d6, rfl⟩
  have hr : ∀ c, c < cs → rowD (ar 13) c (ar 11 c) := fun c hc => (h.1 c hc).2.2.2.1
  have hm : dmOk nm em := ⟨d4, fun x hx => by rw [← d1 x hx]; exact d3.2 x hx⟩
  refine ⟨ruI_eq g, by rw [g.2], g.1.1, fun x hx => ?_, ruF_ok hr 100 0 (dm, rs, rn, 0) d3, (ruF_ok hr 100 0 (em, ss, tn, 0) hm).1, g.1.2.1, g.1.2.2.1⟩
  rw [ruF_far (fun c hc j hj => (h.1 c hc).2.2.1 j hj) 100 0 (dm, rs, rn, 0) x hx]
  exact d2 x hx
/-- all values: the names behind the last have none -/
theorem of_R {nm : Nat} {dm em : Nat → Nat} {rs ss rn tn : Nat → Int32} (h6 : nm ≤ 6) (d : dR nm dm em rs ss rn tn) : sm (fun j => pc6 (dm j)) 6 = allV em nm := by
  have key : ∀ n, nm ≤ n → sm (fun j => pc6 (dm j)) n = allV em nm := by
    intro n
    induction n with
    | zero =>
      intro h
      have e : nm = 0 := by omega
      subst e
      rfl
    | succ n ih =>
      intro h
      by_cases e : nm = n + 1
      · subst e
        unfold allV
        exact sm_cg (fun i hi => by rw [pc_sm, d.1 i hi])
      · show sm (fun j => pc6 (dm j)) n + pc6 (dm n) = _
        rw [ih (by omega), d.2.1 n (by omega)]
        rfl
  exact key 6 h6
theorem ok_R {nm cs : Nat} {ar : Nat → Nat → Nat} {dm em : Nat → Nat} {rs ss rn tn : Nat → Int32} (d : dR nm dm em rs ss rn tn) : ∀ y, y < nm → okA (ALr ar) (ar 11) (ar 13) dm cs y = okA (ALr ar) (ar 11) (ar 13) em cs y := fun y hy => by
  funext ch
  unfold okA
  rw [d.1 y hy]
theorem okX_A {ar : Nat → Nat → Nat} {em : Nat → Nat} {cs : Nat} : okX (ar 10) (ar 11) (ar 13) (ar 14) (ar 15) (ar 16) (ar 17) (ar 18) (ar 19) (ar 20) (ar 21) (ar 22) em cs = okA (ALr ar) (ar 11) (ar 13) em cs := rfl
theorem count_R {nm cs : Nat} {ar : Nat → Nat → Nat} {dm em ch : Nat → Nat} {rs ss rn tn : Nat → Int32} (d : dR nm dm em rs ss rn tn) : (sols (okA (ALr ar) (ar 11) (ar 13) dm cs) nm 0 ch).length = (sols (okX (ar 10) (ar 11) (ar 13) (ar 14) (ar 15) (ar 16) (ar 17) (ar 18) (ar 19) (ar 20) (ar 21) (ar 22) em cs) nm 0 ch).length := by
  rw [okX_A, sols_cgo nm 0 ch (fun y _ hy => ok_R (cs := cs) (ar := ar) d y (by omega))]
theorem gS_cgo {ok ol : Nat → (Nat → Nat) → Bool} {d x : Nat} (h : ∀ y, x ≤ y → y < x + (d + 1) → ok y = ol y) : gS ok d x = gS ol d x := by
  funext ch v
  unfold gS
  rw [h x (Nat.le_refl _) (by omega), sols_cgo d (x + 1) _ (fun y h1 h2 => h y (by omega) (by omega))]
theorem upL_cgo {ok ol : Nat → (Nat → Nat) → Bool} {nm : Nat} (h : ∀ y, y < nm → ok y = ol y) {W : Nat → Nat} : ∀ x, x ≤ nm → upL ok nm x W = upL ol nm x W
  | 0, _ => rfl
  | x + 1, hx => by
    show frm (gS ok (nm - x - 1) x W) _ _ ++ upL ok nm x W = frm (gS ol (nm - x - 1) x W) _ _ ++ upL ol nm x W
    rw [gS_cgo (d := nm - x - 1) (x := x) (fun y _ hy => h y (by omega)), upL_cgo h x (by omega)]
theorem nxL_cgo {ok ol : Nat → (Nat → Nat) → Bool} {nm : Nat} (h : ∀ y, y < nm → ok y = ol y) {W : Nat → Nat} : ∀ x, x ≤ nm → nxL ok nm W x = nxL ol nm W x
  | 0, _ => rfl
  | x + 1, hx => by
    show (if allB (fun y => ok y W) x = true then upL ok nm (x + 1) W else nxL ok nm W x) = (if allB (fun y => ol y W) x = true then upL ol nm (x + 1) W else nxL ol nm W x)
    rw [upL_cgo h (x + 1) hx, nxL_cgo h x (by omega), allB_cg (f := fun y => ok y W) (g := fun y => ol y W) (fun i hi => by rw [h i (by omega)])]
theorem next_R {nm cs : Nat} {ar : Nat → Nat → Nat} {dm em ch : Nat → Nat} {rs ss rn tn : Nat → Int32} {x : Int32} (d : dR nm dm em rs ss rn tn) : nxS (okA (ALr ar) (ar 11) (ar 13) dm cs) nm ch x = nxS (okX (ar 10) (ar 11) (ar 13) (ar 14) (ar 15) (ar 16) (ar 17) (ar 18) (ar 19) (ar 20) (ar 21) (ar 22) em cs) nm ch x := by
  rw [okX_A]
  unfold nxS
  rw [sols_cgo nm 0 ch (fun y _ hy => ok_R (cs := cs) (ar := ar) d y (by omega))]
  have e : ∀ w, nxL (okA (ALr ar) (ar 11) (ar 13) dm cs) nm (wch w ch nm) nm = nxL (okA (ALr ar) (ar 11) (ar 13) em cs) nm (wch w ch nm) nm := fun w => nxL_cgo (fun y hy => ok_R d y hy) nm (Nat.le_refl _)
  simp only [e]
